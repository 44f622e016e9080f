/-! ===== renumbering the cells ===== -/
section Perm
variable {X : Nat × (Int → Int)} {b : Nat × Nat} {d : Nat} {mi : MI} {G : List GC} {pc : Nat} {L S : List VV} {mem : Mem} {Q : zPost} {K : Nat → ClassId} {σ ρ : Nat → Nat} {p q : Nat → Nat}
def pmV (f : Nat → Nat) (v : VV) : VV := match v with
  | .inl z => vi z
  | .inr (.inl z) => vl z
  | .inr (.inr (.inl a)) => vr (f a)
  | .inr (.inr (.inr (.inl j))) => vc j
  | .inr (.inr (.inr (.inr _))) => vd
def pmC (f : Nat → Nat) (g : GC) : GC := (g.1, g.2.1, g.2.2.map (Option.map f))
/-- the shape in which cell a is what cell p a was; q is p the other way round -/
def pmG (p q : Nat → Nat) (G : List GC) : List GC := (List.range G.length).map (fun a => pmC q (G.getD (p a) (0, 0, [])))
theorem pmG_len : (pmG p q G).length = G.length := by simp [pmG]
theorem pm_rv (hpq : ∀ a, p (q a) = a) (v : VV) : rv (fun a => σ (p a)) ρ (pmV q v) = rv σ ρ v := by
  rcases v with z | z | a | j | u
  · rfl
  · rfl
  · show Value.ref (σ (p (q a))) = Value.ref (σ a)
    rw [hpq]
  · rfl
  · rfl
theorem pm_rvo (hpq : ∀ a, p (q a) = a) (v : VV) : rvo (fun a => σ (p a)) ρ (pmV q v) = rvo σ ρ v := by
  rcases v with z | z | a | j | u
  · rfl
  · rfl
  · show some (Value.ref (σ (p (q a)))) = some (Value.ref (σ a))
    rw [hpq]
  · rfl
  · rfl
theorem pm_opt (hpq : ∀ a, p (q a) = a) (rs : List (Option Nat)) (k : Nat) : ((rs.map (Option.map q)).getD k none).map (fun a => σ (p a)) = (rs.getD k none).map σ := by
  rw [List.getD_eq_getElem?_getD, List.getD_eq_getElem?_getD, List.getElem?_map]
  cases rs[k]? with
  | none => rfl
  | some r =>
    cases r with
    | none => rfl
    | some a =>
      show some (σ (p (q a))) = some (σ a)
      rw [hpq]
theorem pm_ent (hpq : ∀ a, p (q a) = a) (g : GC) (f : Int → Int) : ent K (fun a => σ (p a)) (pmC q g) f = ent K σ g f := by
  obtain ⟨k, n1, rs⟩ := g
  rcases k with _ | _ | _ | _ | k
  · show (Sum.inr (n1, fvals (fun a => σ (p a)) n1 (rs.map (Option.map q)) f) : va_E) = Sum.inr (n1, fvals σ n1 rs f)
    have : fvals (fun a => σ (p a)) n1 (rs.map (Option.map q)) f = fvals σ n1 rs f := List.map_congr_left fun k _ => by
      have e := pm_opt (σ := σ) hpq rs k
      generalize tyC n1 k = ty
      cases ty <;> first | rfl | (show va_rf _ = va_rf _; rw [e])
    rw [this]
  · rfl
  · rfl
  · rfl
  · show (Sum.inl (K 4, n1, .inr (.inr (.inr (.inr (fun j => ((rs.map (Option.map q)).getD j none).map (fun a => σ (p a))))))) : va_E) = Sum.inl (K 4, n1, .inr (.inr (.inr (.inr (fun j => (rs.getD j none).map σ)))))
    have : (fun j => ((rs.map (Option.map q)).getD j none).map (fun a => σ (p a))) = fun j => (rs.getD j none).map σ := funext fun j => pm_opt hpq rs j
    rw [this]
theorem pm_at {a : Nat} (ha : a < G.length) : (pmG p q G)[a]? = some (pmC q (G.getD (p a) (0, 0, []))) := by
  unfold pmG
  rw [List.getElem?_map, List.getElem?_range ha]
  rfl
theorem pm_W (hpq : ∀ a, p (q a) = a) {a : Nat} (ha : a < G.length) (hp : p a < G.length) : (zW K (fun a => σ (p a)) (pmG p q G) (fun a => mem (p a)))[a]? = (zW K σ G mem)[p a]? := by
  rw [zW_at (pm_at ha), zW_get hp, pm_ent hpq]
theorem pm_P {D : va_G} {H : Heap} (hpq : ∀ a, p (q a) = a) (hp : ∀ a, a < G.length → p a < G.length) (h : va_P D vwCl (zW K σ G mem) H) : va_P D vwCl (zW K (fun a => σ (p a)) (pmG p q G) (fun a => mem (p a))) H := by
  intro k x hx
  have hk : k < G.length := by
    have := (List.getElem?_eq_some_iff.mp hx).1
    rw [zW_len, pmG_len] at this
    exact this
  rw [pm_W hpq hk (hp k hk)] at hx
  exact h _ _ hx
theorem pm_D {A : Nat → Prop} (hpq : ∀ a, p (q a) = a) (hqp : ∀ a, q (p a) = a) (hp : ∀ a, a < G.length → p a < G.length) (h : va_D A (zW K σ G mem)) : va_D A (zW K (fun a => σ (p a)) (pmG p q G) (fun a => mem (p a))) := by
  have lt : ∀ {k x}, (zW K (fun a => σ (p a)) (pmG p q G) (fun a => mem (p a)))[k]? = some x → k < G.length := fun {k x} hx => by
    have := (List.getElem?_eq_some_iff.mp hx).1
    rw [zW_len, pmG_len] at this
    exact this
  refine ⟨fun i j x y hi hj hxy => ?_, fun k x hx => ?_⟩
  · have li := lt hi
    have lj := lt hj
    rw [pm_W hpq li (hp i li)] at hi
    rw [pm_W hpq lj (hp j lj)] at hj
    have e := h.1 _ _ x y hi hj hxy
    rw [← hqp i, ← hqp j, e]
  · have lk := lt hx
    rw [pm_W hpq lk (hp k lk)] at hx
    exact h.2 _ _ hx
theorem pm_mok (hp : ∀ a, a < G.length → p a < G.length) (hq : ∀ a, a < G.length → q a < G.length) (h : mok G mem) : mok (pmG p q G) (fun a => mem (p a)) := by
  intro a g hg
  have ha : a < G.length := by
    have := (List.getElem?_eq_some_iff.mp hg).1
    rw [pmG_len] at this
    exact this
  rw [pm_at ha] at hg
  have e := Option.some.inj hg
  subst e
  have hpa := hp a ha
  have hg0 : G[p a]? = some (G.getD (p a) (0, 0, [])) := by
    rw [List.getD_eq_getElem?_getD, List.getElem?_eq_getElem hpa]
    rfl
  have h0 := h _ _ hg0
  rw [pmG_len]
  generalize G.getD (p a) (0, 0, []) = g at h0
  obtain ⟨k, n1, rs⟩ := g
  have h1 : ∀ r ∈ rs.map (Option.map q), ∀ a, r = some a → a < G.length := by
    intro r hr a' ha'
    obtain ⟨r0, hr0, e0⟩ := List.mem_map.mp hr
    cases r0 with
    | none =>
      rw [← e0] at ha'
      cases ha'
    | some x =>
      rw [← e0] at ha'
      have e1 : q x = a' := Option.some.inj ha'
      rw [← e1]
      exact hq x (h0.1 _ hr0 x rfl)
  rcases k with _ | k
  · exact ⟨h1, by rw [List.length_map]; exact h0.2.1, h0.2.2⟩
  · exact ⟨h1, h0.2⟩
/-- the cells may be numbered otherwise -/
theorem z_perm {Q' : zPost} {G' : List GC} {L' S' : List VV} {N : Nat} (p q : Nat → Nat) (hpq : ∀ a, p (q a) = a) (hqp : ∀ a, q (p a) = a) (hr : ∀ a, N ≤ a → p a = a ∧ q a = a) (hN : N ≤ G.length) (hG : pmG p q G = G') (hL' : L.map (pmV q) = L') (hS' : S.map (pmV q) = S') (hQ : ∀ G v m, Q' G v m → Q (pmG q p G) (pmV p v) (fun a => m (q a))) (kk : ZZ X b d mi G' pc L' S' (fun a => mem (p a)) Q') : ZZ X b d mi G pc L S mem Q := by
  subst hG
  subst hL'
  subst hS'
  intro pr l e R s m args below meth c D K ρ A n0 σ0 σ H locs cells slots mc ms ls hK hS hL hl T hT Xs
  have lt : ∀ n, N ≤ n → ∀ a, a < n → p a < n ∧ q a < n := by
    intro n hn a ha
    refine ⟨Classical.byContradiction fun w => ?_, Classical.byContradiction fun w => ?_⟩
    · have h1 := (hr (p a) (by omega)).2
      rw [hqp] at h1
      omega
    · have h1 := (hr (q a) (by omega)).1
      rw [hpq] at h1
      omega
  obtain ⟨hfix, hrm, hbud, hA, hro, hnw, hKK, hσ, hP, hD, hSS, hm⟩ := hK
  have lp : ∀ a, a < G.length → p a < G.length := fun a ha => (lt _ hN a ha).1
  have lq : ∀ a, a < G.length → q a < G.length := fun a ha => (lt _ hN a ha).2
  have vq : ∀ v, vok G.length v → vok (pmG p q G).length (pmV q v) := by
    intro v hv
    rw [pmG_len]
    rcases v with z | z | a | j | u
    · exact hv
    · exact hv
    · exact lq a hv
    · trivial
    · trivial
  have hnv : ∀ v : VV, pmV q v ≠ vd → v ≠ vd := by
    intro v h w
    subst w
    exact h rfl
  have hz := kk pr l e R s m args below meth c D K ρ A G.length (fun a => σ (p a)) (fun a => σ (p a)) H locs cells slots mc ms ls
    ⟨hfix, hrm, hbud, hA, hro, hnw, hKK, ⟨by rw [pmG_len]; exact Nat.le_refl _, fun _ _ => rfl⟩, pm_P hpq lp hP, pm_D hpq hqp lp hD, hSS, pm_mok lp lq hm⟩
    (fun v hv => by
      obtain ⟨v0, h0, rfl⟩ := List.mem_map.mp hv
      exact vq v0 (hS v0 h0))
    (fun v hv => by
      obtain ⟨v0, h0, rfl⟩ := List.mem_map.mp hv
      exact vq v0 (hL v0 h0))
    ⟨hl.1, hl.2.1, fun i v hi hv => by
      rw [List.getElem?_map] at hi
      cases h0 : L[i]? with
      | none =>
        rw [h0] at hi
        cases hi
      | some v0 =>
        rw [h0] at hi
        have e0 : pmV q v0 = v := Option.some.inj hi
        subst e0
        rw [pm_rv hpq]
        exact hl.2.2 i v0 h0 (hnv v0 hv)⟩
  rw [List.map_map, show S.map ((rv (fun a => σ (p a)) ρ) ∘ (pmV q)) = S.map (rv σ ρ) from List.map_congr_left fun v _ => pm_rv hpq v] at hz
  obtain ⟨t, a1, o, b1, b2, ⟨⟨G1, σ1, v, m1, c1, c2, c3, c4, c5, c6, c7⟩, b4⟩, b5⟩ := hz T hT Xs
  have hN1 : N ≤ G1.length := Nat.le_trans hN c4.1
  have lp1 : ∀ a, a < G1.length → p a < G1.length := fun a ha => (lt _ hN1 a ha).1
  have lq1 : ∀ a, a < G1.length → q a < G1.length := fun a ha => (lt _ hN1 a ha).2
  refine ⟨t, a1, o, b1, b2, ⟨⟨pmG q p G1, fun a => σ1 (q a), pmV p v, fun a => m1 (q a), ?_, hQ _ _ _ c2, ?_, ⟨?_, fun a ha => ?_⟩, pm_P hqp lq1 c5, pm_D hqp hpq lq1 c6, pm_mok lq1 lp1 c7⟩, b4⟩, b5⟩
  · rw [pm_rvo hqp]
    exact c1
  · rw [pmG_len]
    rcases v with z | z | a | j | u
    · exact c3
    · exact c3
    · exact lp1 a c3
    · trivial
    · trivial
  · rw [pmG_len]
    exact Nat.le_trans hσ.1 c4.1
  · have ha' : a < G.length := Nat.lt_of_lt_of_le ha hσ.1
    have e1 : σ1 (q a) = σ (p (q a)) := c4.2 _ (lq a ha')
    show σ1 (q a) = σ0 a
    rw [e1, hpq]
    exact hσ.2 a ha
end Perm
/-- from our numbers to the order of making, and back: goal is made behind part, and the reference's books last of all, but they are numbered 30, 31, 32 -/
def pR (a : Nat) : Nat := if a < 17 then a else if a < 30 then a + 2 else if a < 32 then a - 13 else if a = 32 then 103 else if a < 104 then a - 1 else a
def pQ (a : Nat) : Nat := if a < 17 then a else if a < 19 then a + 13 else if a < 32 then a - 2 else if a < 103 then a + 1 else if a = 103 then 32 else a
theorem pRQ (a : Nat) : pR (pQ a) = a := by
  unfold pR pQ
  (repeat' split) <;> omega
theorem pQR (a : Nat) : pQ (pR a) = a := by
  unfold pR pQ
  (repeat' split) <;> omega
theorem pRQ_far : ∀ a, 104 ≤ a → pR a = a ∧ pQ a = a := by
  intro a h
  unfold pR pQ
  constructor <;> (repeat' split) <;> omega
theorem pm_GR : pmG pR pQ GR = G0 := by decide +kernel
theorem pm_G0 : pmG pQ pR G0 = GR := by decide +kernel
theorem GR_len : GR.length = 104 := by decide +kernel
theorem pR_b {x : Nat} (h1 : x < 89) (h2 : x ≠ 32) : pR x < 88 := by
  unfold pR
  (repeat' split) <;> omega
theorem pR_c {x : Nat} (h1 : x < 88) (h2 : x ≠ 32) : pR x < 87 := by
  unfold pR
  (repeat' split) <;> omega
theorem pR_h {x : Nat} (h : 89 ≤ x ∨ x = 32) : 88 ≤ pR x := by
  unfold pR
  (repeat' split) <;> omega
theorem pR_t {x : Nat} (h0 : 1 ≤ x) (h1 : x < 88) (h2 : x ≠ 32) (h3 : x ≠ 73) (h4 : x ≠ 74) (h5 : x ≠ 76) (h6 : x ≠ 82) (h7 : x ≠ 83) : 1 ≤ pR x ∧ pR x ≠ 72 ∧ pR x ≠ 73 ∧ pR x ≠ 75 ∧ pR x ≠ 81 ∧ pR x ≠ 82 := by
  unfold pR
  (repeat' split) <;> omega
/-! ===== the two constructors (laid by gen84.py) ===== -/
def gT : List GC := GR.take 87
section Ctor2
variable {X : Nat × (Int → Int)} {b : Nat × Nat} {d : Nat} {mi : MI} {G : List GC} {pc : Nat} {L S : List VV} {mem : Mem} {Q : zPost}
/-- how a class is made: nothing but noughts, but for what is told -/
def cToldR (m : Mem) : Prop := m 0 10 = 150 ∧ (∀ x, 1 ≤ x → x < 87 → x ≠ 72 → x ≠ 73 → x ≠ 75 → x ≠ 81 → x ≠ 82 → m x = fun _ => 0) ∧ (∀ j : Nat, j < 4 → m 72 (j : Int) = 1 ∧ m 73 (j : Int) = 1) ∧ (∀ j : Nat, j < 6 → m 75 (j : Int) = -1) ∧ natAt m 81 1
theorem cm_X11_init : CM X (86, 1792) 3 mX11_init (([] : List GC) ++ [(0, 11, List.replicate 11 none)]) [vr 0] mem (pC gT cToldR) := by
  refine CM.of (by decide +kernel) 0 (Nat.le_of_ble_eq_true rfl) ?_
  show ZZ X (86, 1792) 3 mX11_init (([] : List GC) ++ [(0, 11, List.replicate 11 none)]) 0 [vr 0] [] mem _
  refine z_aload_n dX11_init_0 rfl ?_
  refine z_objI dX11_init_1 oi_X11_1 oi_in oi_co (Nat.le_of_ble_eq_true rfl) (by decide) ?_
  refine z_aload_n dX11_init_4 rfl ?_
  refine z_nw (85, 1785) dX11_init_5 cl_3 nl_X11_7 in_X3 ii_X3 df_X3 ⟨by decide, by decide⟩ ?_
  refine zz_mem (Pm := fun m => m = zer mem 1) rfl (fun n1 e1 => ?_)
  show ZZ X (85, 1785) 3 mX11_init (([] : List GC) ++ ([(0, 11, [none, none, none, none, none, none, none, none, none, none, none])] ++ [(0, 3, List.replicate 7 none)])) 8 [vr ([] : List GC).length] [vr (([] : List GC).length + 1), vr ([] : List GC).length] n1 _
  refine z_dup dX11_init_8 (by intro z q; cases q) ?_
  refine z_callI (a := ([] : List GC).length + 1) (b1 := (6, 360)) (b2 := (79, 1425)) (As := []) dX11_init_9 ok_X3_init rfl lk_X11_9 rfl (Nat.le_of_ble_eq_true rfl) (by decide) ⟨by decide, by decide⟩ (cn_X3_init ([] : List GC) [(0, 11, [none, none, none, none, none, none, none, none, none, none, none])]) (fun G' v m1 hq _ => ?_)
  obtain ⟨rfl, rfl, c1⟩ := hq
  show ZZ X (79, 1425) 3 mX11_init (([] : List GC) ++ [(0, 11, [none, none, none, none, none, none, none, none, none, none, none]), (0, 3, [some (([] : List GC).length + 2), some (([] : List GC).length + 3), some (([] : List GC).length + 4), some (([] : List GC).length + 5), some (([] : List GC).length + 6), some (([] : List GC).length + 7), none]), (1, 60, []), (1, 60, []), (1, 60, []), (1, 60, []), (1, 60, []), (2, 60, [])]) 12 [vr ([] : List GC).length] [vr (([] : List GC).length + 1), vr ([] : List GC).length] m1 _
  have g1 : fresh 2 (zer mem 1) m1 := by rw [← e1]; exact c1
  have z1 : ∀ x, 1 ≤ x → m1 x = fun _ => 0 := by
    intro x hx
    by_cases q : x < 2
    · rw [g1.1 x q]
      exact zer_ge mem hx
    · exact g1.2 x (by omega)
  refine z_pR 0 dX11_init_12 ff_X11_10 rfl rfl (fun _ => ⟨rfl, rfl⟩) (fun _ _ _ => rfl) (fun _ => trivial) ?_
  show ZZ X (79, 1425) 3 mX11_init (([] : List GC) ++ [(0, 11, [some (([] : List GC).length + 1), none, none, none, none, none, none, none, none, none, none]), (0, 3, [some (([] : List GC).length + 2), some (([] : List GC).length + 3), some (([] : List GC).length + 4), some (([] : List GC).length + 5), some (([] : List GC).length + 6), some (([] : List GC).length + 7), none]), (1, 60, []), (1, 60, []), (1, 60, []), (1, 60, []), (1, 60, []), (2, 60, [])]) 15 [vr ([] : List GC).length] [] m1 _
  refine z_aload_n dX11_init_15 rfl ?_
  refine z_nw (78, 1423) dX11_init_16 cl_6 nl_X11_16 in_X6 ii_X6 df_X6 ⟨by decide, by decide⟩ ?_
  refine zz_mem (Pm := fun m => m = zer m1 8) rfl (fun n8 e8 => ?_)
  show ZZ X (78, 1423) 3 mX11_init (([] : List GC) ++ ([(0, 11, [some (([] : List GC).length + 1), none, none, none, none, none, none, none, none, none, none]), (0, 3, [some (([] : List GC).length + 2), some (([] : List GC).length + 3), some (([] : List GC).length + 4), some (([] : List GC).length + 5), some (([] : List GC).length + 6), some (([] : List GC).length + 7), none]), (1, 60, []), (1, 60, []), (1, 60, []), (1, 60, []), (1, 60, []), (2, 60, [])] ++ [(0, 6, List.replicate 2 none)])) 19 [vr ([] : List GC).length] [vr (([] : List GC).length + 8), vr ([] : List GC).length] n8 _
  refine z_dup dX11_init_19 (by intro z q; cases q) ?_
  refine z_callI (a := ([] : List GC).length + 8) (b1 := (1, 60)) (b2 := (77, 1363)) (As := []) dX11_init_20 ok_X6_init rfl lk_X11_18 rfl (Nat.le_of_ble_eq_true rfl) (by decide) ⟨by decide, by decide⟩ (cn_X6_init ([] : List GC) [(0, 11, [some (([] : List GC).length + 1), none, none, none, none, none, none, none, none, none, none]), (0, 3, [some (([] : List GC).length + 2), some (([] : List GC).length + 3), some (([] : List GC).length + 4), some (([] : List GC).length + 5), some (([] : List GC).length + 6), some (([] : List GC).length + 7), none]), (1, 60, []), (1, 60, []), (1, 60, []), (1, 60, []), (1, 60, []), (2, 60, [])]) (fun G' v m2 hq _ => ?_)
  obtain ⟨rfl, rfl, c2⟩ := hq
  show ZZ X (77, 1363) 3 mX11_init (([] : List GC) ++ [(0, 11, [some (([] : List GC).length + 1), none, none, none, none, none, none, none, none, none, none]), (0, 3, [some (([] : List GC).length + 2), some (([] : List GC).length + 3), some (([] : List GC).length + 4), some (([] : List GC).length + 5), some (([] : List GC).length + 6), some (([] : List GC).length + 7), none]), (1, 60, []), (1, 60, []), (1, 60, []), (1, 60, []), (1, 60, []), (2, 60, []), (0, 6, [some (([] : List GC).length + 9), none]), (1, 60, [])]) 23 [vr ([] : List GC).length] [vr (([] : List GC).length + 8), vr ([] : List GC).length] m2 _
  have g2 : fresh 9 (zer m1 8) m2 := by rw [← e8]; exact c2
  have z2 : ∀ x, 1 ≤ x → m2 x = fun _ => 0 := by
    intro x hx
    by_cases q : x < 9
    · rw [g2.1 x q]
      by_cases w : x < 8
      · rw [zer_lt _ w]; exact z1 x hx
      · exact zer_ge _ (by omega)
    · exact g2.2 x (by omega)
  refine z_pR 0 dX11_init_23 ff_X11_19 rfl rfl (fun _ => ⟨rfl, rfl⟩) (fun _ _ _ => rfl) (fun _ => trivial) ?_
  show ZZ X (77, 1363) 3 mX11_init (([] : List GC) ++ [(0, 11, [some (([] : List GC).length + 1), some (([] : List GC).length + 8), none, none, none, none, none, none, none, none, none]), (0, 3, [some (([] : List GC).length + 2), some (([] : List GC).length + 3), some (([] : List GC).length + 4), some (([] : List GC).length + 5), some (([] : List GC).length + 6), some (([] : List GC).length + 7), none]), (1, 60, []), (1, 60, []), (1, 60, []), (1, 60, []), (1, 60, []), (2, 60, []), (0, 6, [some (([] : List GC).length + 9), none]), (1, 60, [])]) 26 [vr ([] : List GC).length] [] m2 _
  refine z_aload_n dX11_init_26 rfl ?_
  refine z_nw (76, 1356) dX11_init_27 cl_9 nl_X11_23 in_X9 ii_X9 df_X9 ⟨by decide, by decide⟩ ?_
  refine zz_mem (Pm := fun m => m = zer m2 10) rfl (fun n10 e10 => ?_)
  show ZZ X (76, 1356) 3 mX11_init (([] : List GC) ++ ([(0, 11, [some (([] : List GC).length + 1), some (([] : List GC).length + 8), none, none, none, none, none, none, none, none, none]), (0, 3, [some (([] : List GC).length + 2), some (([] : List GC).length + 3), some (([] : List GC).length + 4), some (([] : List GC).length + 5), some (([] : List GC).length + 6), some (([] : List GC).length + 7), none]), (1, 60, []), (1, 60, []), (1, 60, []), (1, 60, []), (1, 60, []), (2, 60, []), (0, 6, [some (([] : List GC).length + 9), none]), (1, 60, [])] ++ [(0, 9, List.replicate 7 none)])) 30 [vr ([] : List GC).length] [vr (([] : List GC).length + 10), vr ([] : List GC).length] n10 _
  refine z_dup dX11_init_30 (by intro z q; cases q) ?_
  refine z_callI (a := ([] : List GC).length + 10) (b1 := (8, 264)) (b2 := (68, 1092)) (As := []) dX11_init_31 ok_X9_init rfl lk_X11_25 rfl (Nat.le_of_ble_eq_true rfl) (by decide) ⟨by decide, by decide⟩ (cn_X9_init ([] : List GC) [(0, 11, [some (([] : List GC).length + 1), some (([] : List GC).length + 8), none, none, none, none, none, none, none, none, none]), (0, 3, [some (([] : List GC).length + 2), some (([] : List GC).length + 3), some (([] : List GC).length + 4), some (([] : List GC).length + 5), some (([] : List GC).length + 6), some (([] : List GC).length + 7), none]), (1, 60, []), (1, 60, []), (1, 60, []), (1, 60, []), (1, 60, []), (2, 60, []), (0, 6, [some (([] : List GC).length + 9), none]), (1, 60, [])]) (fun G' v m3 hq _ => ?_)
  obtain ⟨rfl, rfl, c3⟩ := hq
  show ZZ X (68, 1092) 3 mX11_init (([] : List GC) ++ [(0, 11, [some (([] : List GC).length + 1), some (([] : List GC).length + 8), none, none, none, none, none, none, none, none, none]), (0, 3, [some (([] : List GC).length + 2), some (([] : List GC).length + 3), some (([] : List GC).length + 4), some (([] : List GC).length + 5), some (([] : List GC).length + 6), some (([] : List GC).length + 7), none]), (1, 60, []), (1, 60, []), (1, 60, []), (1, 60, []), (1, 60, []), (2, 60, []), (0, 6, [some (([] : List GC).length + 9), none]), (1, 60, []), (0, 9, [some (([] : List GC).length + 11), some (([] : List GC).length + 13), some (([] : List GC).length + 15), some (([] : List GC).length + 17), none, none, none]), (0, 8, [some (([] : List GC).length + 12), none]), (1, 64, []), (0, 8, [some (([] : List GC).length + 14), none]), (1, 64, []), (0, 8, [some (([] : List GC).length + 16), none]), (1, 64, []), (0, 8, [some (([] : List GC).length + 18), none]), (1, 64, [])]) 34 [vr ([] : List GC).length] [vr (([] : List GC).length + 10), vr ([] : List GC).length] m3 _
  have g3 : fresh 11 (zer m2 10) m3 := by rw [← e10]; exact c3
  have z3 : ∀ x, 1 ≤ x → m3 x = fun _ => 0 := by
    intro x hx
    by_cases q : x < 11
    · rw [g3.1 x q]
      by_cases w : x < 10
      · rw [zer_lt _ w]; exact z2 x hx
      · exact zer_ge _ (by omega)
    · exact g3.2 x (by omega)
  refine z_pR 0 dX11_init_34 ff_X11_26 rfl rfl (fun _ => ⟨rfl, rfl⟩) (fun _ _ _ => rfl) (fun _ => trivial) ?_
  show ZZ X (68, 1092) 3 mX11_init (([] : List GC) ++ [(0, 11, [some (([] : List GC).length + 1), some (([] : List GC).length + 8), some (([] : List GC).length + 10), none, none, none, none, none, none, none, none]), (0, 3, [some (([] : List GC).length + 2), some (([] : List GC).length + 3), some (([] : List GC).length + 4), some (([] : List GC).length + 5), some (([] : List GC).length + 6), some (([] : List GC).length + 7), none]), (1, 60, []), (1, 60, []), (1, 60, []), (1, 60, []), (1, 60, []), (2, 60, []), (0, 6, [some (([] : List GC).length + 9), none]), (1, 60, []), (0, 9, [some (([] : List GC).length + 11), some (([] : List GC).length + 13), some (([] : List GC).length + 15), some (([] : List GC).length + 17), none, none, none]), (0, 8, [some (([] : List GC).length + 12), none]), (1, 64, []), (0, 8, [some (([] : List GC).length + 14), none]), (1, 64, []), (0, 8, [some (([] : List GC).length + 16), none]), (1, 64, []), (0, 8, [some (([] : List GC).length + 18), none]), (1, 64, [])]) 37 [vr ([] : List GC).length] [] m3 _
  refine z_aload_n dX11_init_37 rfl ?_
  refine z_nw (67, 1090) dX11_init_38 cl_7 nl_X11_30 in_X7 ii_X7 df_X7 ⟨by decide, by decide⟩ ?_
  refine zz_mem (Pm := fun m => m = zer m3 19) rfl (fun n19 e19 => ?_)
  show ZZ X (67, 1090) 3 mX11_init (([] : List GC) ++ ([(0, 11, [some (([] : List GC).length + 1), some (([] : List GC).length + 8), some (([] : List GC).length + 10), none, none, none, none, none, none, none, none]), (0, 3, [some (([] : List GC).length + 2), some (([] : List GC).length + 3), some (([] : List GC).length + 4), some (([] : List GC).length + 5), some (([] : List GC).length + 6), some (([] : List GC).length + 7), none]), (1, 60, []), (1, 60, []), (1, 60, []), (1, 60, []), (1, 60, []), (2, 60, []), (0, 6, [some (([] : List GC).length + 9), none]), (1, 60, []), (0, 9, [some (([] : List GC).length + 11), some (([] : List GC).length + 13), some (([] : List GC).length + 15), some (([] : List GC).length + 17), none, none, none]), (0, 8, [some (([] : List GC).length + 12), none]), (1, 64, []), (0, 8, [some (([] : List GC).length + 14), none]), (1, 64, []), (0, 8, [some (([] : List GC).length + 16), none]), (1, 64, []), (0, 8, [some (([] : List GC).length + 18), none]), (1, 64, [])] ++ [(0, 7, List.replicate 2 none)])) 41 [vr ([] : List GC).length] [vr (([] : List GC).length + 19), vr ([] : List GC).length] n19 _
  refine z_dup dX11_init_41 (by intro z q; cases q) ?_
  refine z_callI (a := ([] : List GC).length + 19) (b1 := (4, 132)) (b2 := (63, 958)) (As := []) dX11_init_42 ok_X7_init rfl lk_X11_32 rfl (Nat.le_of_ble_eq_true rfl) (by decide) ⟨by decide, by decide⟩ (cn_X7_init ([] : List GC) [(0, 11, [some (([] : List GC).length + 1), some (([] : List GC).length + 8), some (([] : List GC).length + 10), none, none, none, none, none, none, none, none]), (0, 3, [some (([] : List GC).length + 2), some (([] : List GC).length + 3), some (([] : List GC).length + 4), some (([] : List GC).length + 5), some (([] : List GC).length + 6), some (([] : List GC).length + 7), none]), (1, 60, []), (1, 60, []), (1, 60, []), (1, 60, []), (1, 60, []), (2, 60, []), (0, 6, [some (([] : List GC).length + 9), none]), (1, 60, []), (0, 9, [some (([] : List GC).length + 11), some (([] : List GC).length + 13), some (([] : List GC).length + 15), some (([] : List GC).length + 17), none, none, none]), (0, 8, [some (([] : List GC).length + 12), none]), (1, 64, []), (0, 8, [some (([] : List GC).length + 14), none]), (1, 64, []), (0, 8, [some (([] : List GC).length + 16), none]), (1, 64, []), (0, 8, [some (([] : List GC).length + 18), none]), (1, 64, [])]) (fun G' v m4 hq _ => ?_)
  obtain ⟨rfl, rfl, c4⟩ := hq
  show ZZ X (63, 958) 3 mX11_init (([] : List GC) ++ [(0, 11, [some (([] : List GC).length + 1), some (([] : List GC).length + 8), some (([] : List GC).length + 10), none, none, none, none, none, none, none, none]), (0, 3, [some (([] : List GC).length + 2), some (([] : List GC).length + 3), some (([] : List GC).length + 4), some (([] : List GC).length + 5), some (([] : List GC).length + 6), some (([] : List GC).length + 7), none]), (1, 60, []), (1, 60, []), (1, 60, []), (1, 60, []), (1, 60, []), (2, 60, []), (0, 6, [some (([] : List GC).length + 9), none]), (1, 60, []), (0, 9, [some (([] : List GC).length + 11), some (([] : List GC).length + 13), some (([] : List GC).length + 15), some (([] : List GC).length + 17), none, none, none]), (0, 8, [some (([] : List GC).length + 12), none]), (1, 64, []), (0, 8, [some (([] : List GC).length + 14), none]), (1, 64, []), (0, 8, [some (([] : List GC).length + 16), none]), (1, 64, []), (0, 8, [some (([] : List GC).length + 18), none]), (1, 64, []), (0, 7, [some (([] : List GC).length + 20), some (([] : List GC).length + 22)]), (0, 8, [some (([] : List GC).length + 21), none]), (1, 64, []), (0, 8, [some (([] : List GC).length + 23), none]), (1, 64, [])]) 45 [vr ([] : List GC).length] [vr (([] : List GC).length + 19), vr ([] : List GC).length] m4 _
  have g4 : fresh 20 (zer m3 19) m4 := by rw [← e19]; exact c4
  have z4 : ∀ x, 1 ≤ x → m4 x = fun _ => 0 := by
    intro x hx
    by_cases q : x < 20
    · rw [g4.1 x q]
      by_cases w : x < 19
      · rw [zer_lt _ w]; exact z3 x hx
      · exact zer_ge _ (by omega)
    · exact g4.2 x (by omega)
  refine z_pR 0 dX11_init_45 ff_X11_33 rfl rfl (fun _ => ⟨rfl, rfl⟩) (fun _ _ _ => rfl) (fun _ => trivial) ?_
  show ZZ X (63, 958) 3 mX11_init (([] : List GC) ++ [(0, 11, [some (([] : List GC).length + 1), some (([] : List GC).length + 8), some (([] : List GC).length + 10), some (([] : List GC).length + 19), none, none, none, none, none, none, none]), (0, 3, [some (([] : List GC).length + 2), some (([] : List GC).length + 3), some (([] : List GC).length + 4), some (([] : List GC).length + 5), some (([] : List GC).length + 6), some (([] : List GC).length + 7), none]), (1, 60, []), (1, 60, []), (1, 60, []), (1, 60, []), (1, 60, []), (2, 60, []), (0, 6, [some (([] : List GC).length + 9), none]), (1, 60, []), (0, 9, [some (([] : List GC).length + 11), some (([] : List GC).length + 13), some (([] : List GC).length + 15), some (([] : List GC).length + 17), none, none, none]), (0, 8, [some (([] : List GC).length + 12), none]), (1, 64, []), (0, 8, [some (([] : List GC).length + 14), none]), (1, 64, []), (0, 8, [some (([] : List GC).length + 16), none]), (1, 64, []), (0, 8, [some (([] : List GC).length + 18), none]), (1, 64, []), (0, 7, [some (([] : List GC).length + 20), some (([] : List GC).length + 22)]), (0, 8, [some (([] : List GC).length + 21), none]), (1, 64, []), (0, 8, [some (([] : List GC).length + 23), none]), (1, 64, [])]) 48 [vr ([] : List GC).length] [] m4 _
  refine z_aload_n dX11_init_48 rfl ?_
  refine z_nw (62, 947) dX11_init_49 cl_10 nl_X11_37 in_X10 ii_X10 df_X10 ⟨by decide, by decide⟩ ?_
  refine zz_mem (Pm := fun m => m = zer m4 24) rfl (fun n24 e24 => ?_)
  show ZZ X (62, 947) 3 mX11_init (([] : List GC) ++ ([(0, 11, [some (([] : List GC).length + 1), some (([] : List GC).length + 8), some (([] : List GC).length + 10), some (([] : List GC).length + 19), none, none, none, none, none, none, none]), (0, 3, [some (([] : List GC).length + 2), some (([] : List GC).length + 3), some (([] : List GC).length + 4), some (([] : List GC).length + 5), some (([] : List GC).length + 6), some (([] : List GC).length + 7), none]), (1, 60, []), (1, 60, []), (1, 60, []), (1, 60, []), (1, 60, []), (2, 60, []), (0, 6, [some (([] : List GC).length + 9), none]), (1, 60, []), (0, 9, [some (([] : List GC).length + 11), some (([] : List GC).length + 13), some (([] : List GC).length + 15), some (([] : List GC).length + 17), none, none, none]), (0, 8, [some (([] : List GC).length + 12), none]), (1, 64, []), (0, 8, [some (([] : List GC).length + 14), none]), (1, 64, []), (0, 8, [some (([] : List GC).length + 16), none]), (1, 64, []), (0, 8, [some (([] : List GC).length + 18), none]), (1, 64, []), (0, 7, [some (([] : List GC).length + 20), some (([] : List GC).length + 22)]), (0, 8, [some (([] : List GC).length + 21), none]), (1, 64, []), (0, 8, [some (([] : List GC).length + 23), none]), (1, 64, [])] ++ [(0, 10, List.replicate 11 none)])) 52 [vr ([] : List GC).length] [vr (([] : List GC).length + 24), vr ([] : List GC).length] n24 _
  refine z_dup dX11_init_52 (by intro z q; cases q) ?_
  refine z_callI (a := ([] : List GC).length + 24) (b1 := (7, 66)) (b2 := (55, 881)) (As := []) dX11_init_53 ok_X10_init rfl lk_X11_39 rfl (Nat.le_of_ble_eq_true rfl) (by decide) ⟨by decide, by decide⟩ (cn_X10_init ([] : List GC) [(0, 11, [some (([] : List GC).length + 1), some (([] : List GC).length + 8), some (([] : List GC).length + 10), some (([] : List GC).length + 19), none, none, none, none, none, none, none]), (0, 3, [some (([] : List GC).length + 2), some (([] : List GC).length + 3), some (([] : List GC).length + 4), some (([] : List GC).length + 5), some (([] : List GC).length + 6), some (([] : List GC).length + 7), none]), (1, 60, []), (1, 60, []), (1, 60, []), (1, 60, []), (1, 60, []), (2, 60, []), (0, 6, [some (([] : List GC).length + 9), none]), (1, 60, []), (0, 9, [some (([] : List GC).length + 11), some (([] : List GC).length + 13), some (([] : List GC).length + 15), some (([] : List GC).length + 17), none, none, none]), (0, 8, [some (([] : List GC).length + 12), none]), (1, 64, []), (0, 8, [some (([] : List GC).length + 14), none]), (1, 64, []), (0, 8, [some (([] : List GC).length + 16), none]), (1, 64, []), (0, 8, [some (([] : List GC).length + 18), none]), (1, 64, []), (0, 7, [some (([] : List GC).length + 20), some (([] : List GC).length + 22)]), (0, 8, [some (([] : List GC).length + 21), none]), (1, 64, []), (0, 8, [some (([] : List GC).length + 23), none]), (1, 64, [])]) (fun G' v m5 hq _ => ?_)
  obtain ⟨rfl, rfl, c5⟩ := hq
  show ZZ X (55, 881) 3 mX11_init (([] : List GC) ++ [(0, 11, [some (([] : List GC).length + 1), some (([] : List GC).length + 8), some (([] : List GC).length + 10), some (([] : List GC).length + 19), none, none, none, none, none, none, none]), (0, 3, [some (([] : List GC).length + 2), some (([] : List GC).length + 3), some (([] : List GC).length + 4), some (([] : List GC).length + 5), some (([] : List GC).length + 6), some (([] : List GC).length + 7), none]), (1, 60, []), (1, 60, []), (1, 60, []), (1, 60, []), (1, 60, []), (2, 60, []), (0, 6, [some (([] : List GC).length + 9), none]), (1, 60, []), (0, 9, [some (([] : List GC).length + 11), some (([] : List GC).length + 13), some (([] : List GC).length + 15), some (([] : List GC).length + 17), none, none, none]), (0, 8, [some (([] : List GC).length + 12), none]), (1, 64, []), (0, 8, [some (([] : List GC).length + 14), none]), (1, 64, []), (0, 8, [some (([] : List GC).length + 16), none]), (1, 64, []), (0, 8, [some (([] : List GC).length + 18), none]), (1, 64, []), (0, 7, [some (([] : List GC).length + 20), some (([] : List GC).length + 22)]), (0, 8, [some (([] : List GC).length + 21), none]), (1, 64, []), (0, 8, [some (([] : List GC).length + 23), none]), (1, 64, []), (0, 10, [some (([] : List GC).length + 25), some (([] : List GC).length + 26), some (([] : List GC).length + 27), some (([] : List GC).length + 28), none, none, none, some (([] : List GC).length + 29), some (([] : List GC).length + 30), some (([] : List GC).length + 31), none]), (1, 12, []), (1, 12, []), (1, 12, []), (1, 12, []), (1, 6, []), (1, 6, []), (1, 6, [])]) 56 [vr ([] : List GC).length] [vr (([] : List GC).length + 24), vr ([] : List GC).length] m5 _
  have g5 : fresh 25 (zer m4 24) m5 := by rw [← e24]; exact c5
  have z5 : ∀ x, 1 ≤ x → m5 x = fun _ => 0 := by
    intro x hx
    by_cases q : x < 25
    · rw [g5.1 x q]
      by_cases w : x < 24
      · rw [zer_lt _ w]; exact z4 x hx
      · exact zer_ge _ (by omega)
    · exact g5.2 x (by omega)
  refine z_pR 0 dX11_init_56 ff_X11_40 rfl rfl (fun _ => ⟨rfl, rfl⟩) (fun _ _ _ => rfl) (fun _ => trivial) ?_
  show ZZ X (55, 881) 3 mX11_init (([] : List GC) ++ [(0, 11, [some (([] : List GC).length + 1), some (([] : List GC).length + 8), some (([] : List GC).length + 10), some (([] : List GC).length + 19), some (([] : List GC).length + 24), none, none, none, none, none, none]), (0, 3, [some (([] : List GC).length + 2), some (([] : List GC).length + 3), some (([] : List GC).length + 4), some (([] : List GC).length + 5), some (([] : List GC).length + 6), some (([] : List GC).length + 7), none]), (1, 60, []), (1, 60, []), (1, 60, []), (1, 60, []), (1, 60, []), (2, 60, []), (0, 6, [some (([] : List GC).length + 9), none]), (1, 60, []), (0, 9, [some (([] : List GC).length + 11), some (([] : List GC).length + 13), some (([] : List GC).length + 15), some (([] : List GC).length + 17), none, none, none]), (0, 8, [some (([] : List GC).length + 12), none]), (1, 64, []), (0, 8, [some (([] : List GC).length + 14), none]), (1, 64, []), (0, 8, [some (([] : List GC).length + 16), none]), (1, 64, []), (0, 8, [some (([] : List GC).length + 18), none]), (1, 64, []), (0, 7, [some (([] : List GC).length + 20), some (([] : List GC).length + 22)]), (0, 8, [some (([] : List GC).length + 21), none]), (1, 64, []), (0, 8, [some (([] : List GC).length + 23), none]), (1, 64, []), (0, 10, [some (([] : List GC).length + 25), some (([] : List GC).length + 26), some (([] : List GC).length + 27), some (([] : List GC).length + 28), none, none, none, some (([] : List GC).length + 29), some (([] : List GC).length + 30), some (([] : List GC).length + 31), none]), (1, 12, []), (1, 12, []), (1, 12, []), (1, 12, []), (1, 6, []), (1, 6, []), (1, 6, [])]) 59 [vr ([] : List GC).length] [] m5 _
  refine z_aload_n dX11_init_59 rfl ?_
  refine z_nw (54, 874) dX11_init_60 cl_2 nl_X11_44 in_X2 ii_X2 df_X2 ⟨by decide, by decide⟩ ?_
  refine zz_mem (Pm := fun m => m = zer m5 32) rfl (fun n32 e32 => ?_)
  show ZZ X (54, 874) 3 mX11_init (([] : List GC) ++ ([(0, 11, [some (([] : List GC).length + 1), some (([] : List GC).length + 8), some (([] : List GC).length + 10), some (([] : List GC).length + 19), some (([] : List GC).length + 24), none, none, none, none, none, none]), (0, 3, [some (([] : List GC).length + 2), some (([] : List GC).length + 3), some (([] : List GC).length + 4), some (([] : List GC).length + 5), some (([] : List GC).length + 6), some (([] : List GC).length + 7), none]), (1, 60, []), (1, 60, []), (1, 60, []), (1, 60, []), (1, 60, []), (2, 60, []), (0, 6, [some (([] : List GC).length + 9), none]), (1, 60, []), (0, 9, [some (([] : List GC).length + 11), some (([] : List GC).length + 13), some (([] : List GC).length + 15), some (([] : List GC).length + 17), none, none, none]), (0, 8, [some (([] : List GC).length + 12), none]), (1, 64, []), (0, 8, [some (([] : List GC).length + 14), none]), (1, 64, []), (0, 8, [some (([] : List GC).length + 16), none]), (1, 64, []), (0, 8, [some (([] : List GC).length + 18), none]), (1, 64, []), (0, 7, [some (([] : List GC).length + 20), some (([] : List GC).length + 22)]), (0, 8, [some (([] : List GC).length + 21), none]), (1, 64, []), (0, 8, [some (([] : List GC).length + 23), none]), (1, 64, []), (0, 10, [some (([] : List GC).length + 25), some (([] : List GC).length + 26), some (([] : List GC).length + 27), some (([] : List GC).length + 28), none, none, none, some (([] : List GC).length + 29), some (([] : List GC).length + 30), some (([] : List GC).length + 31), none]), (1, 12, []), (1, 12, []), (1, 12, []), (1, 12, []), (1, 6, []), (1, 6, []), (1, 6, [])] ++ [(0, 2, List.replicate 7 none)])) 63 [vr ([] : List GC).length] [vr (([] : List GC).length + 32), vr ([] : List GC).length] n32 _
  refine z_dup dX11_init_63 (by intro z q; cases q) ?_
  refine z_callI (a := ([] : List GC).length + 32) (b1 := (34, 507)) (b2 := (20, 367)) (As := []) dX11_init_64 ok_X2_init rfl lk_X11_46 rfl (Nat.le_of_ble_eq_true rfl) (by decide) ⟨by decide, by decide⟩ (cn_X2_init ([] : List GC) [(0, 11, [some (([] : List GC).length + 1), some (([] : List GC).length + 8), some (([] : List GC).length + 10), some (([] : List GC).length + 19), some (([] : List GC).length + 24), none, none, none, none, none, none]), (0, 3, [some (([] : List GC).length + 2), some (([] : List GC).length + 3), some (([] : List GC).length + 4), some (([] : List GC).length + 5), some (([] : List GC).length + 6), some (([] : List GC).length + 7), none]), (1, 60, []), (1, 60, []), (1, 60, []), (1, 60, []), (1, 60, []), (2, 60, []), (0, 6, [some (([] : List GC).length + 9), none]), (1, 60, []), (0, 9, [some (([] : List GC).length + 11), some (([] : List GC).length + 13), some (([] : List GC).length + 15), some (([] : List GC).length + 17), none, none, none]), (0, 8, [some (([] : List GC).length + 12), none]), (1, 64, []), (0, 8, [some (([] : List GC).length + 14), none]), (1, 64, []), (0, 8, [some (([] : List GC).length + 16), none]), (1, 64, []), (0, 8, [some (([] : List GC).length + 18), none]), (1, 64, []), (0, 7, [some (([] : List GC).length + 20), some (([] : List GC).length + 22)]), (0, 8, [some (([] : List GC).length + 21), none]), (1, 64, []), (0, 8, [some (([] : List GC).length + 23), none]), (1, 64, []), (0, 10, [some (([] : List GC).length + 25), some (([] : List GC).length + 26), some (([] : List GC).length + 27), some (([] : List GC).length + 28), none, none, none, some (([] : List GC).length + 29), some (([] : List GC).length + 30), some (([] : List GC).length + 31), none]), (1, 12, []), (1, 12, []), (1, 12, []), (1, 12, []), (1, 6, []), (1, 6, []), (1, 6, [])]) (fun G' v m6 hq _ => ?_)
  obtain ⟨rfl, rfl, c6⟩ := hq
  show ZZ X (20, 367) 3 mX11_init (([] : List GC) ++ [(0, 11, [some (([] : List GC).length + 1), some (([] : List GC).length + 8), some (([] : List GC).length + 10), some (([] : List GC).length + 19), some (([] : List GC).length + 24), none, none, none, none, none, none]), (0, 3, [some (([] : List GC).length + 2), some (([] : List GC).length + 3), some (([] : List GC).length + 4), some (([] : List GC).length + 5), some (([] : List GC).length + 6), some (([] : List GC).length + 7), none]), (1, 60, []), (1, 60, []), (1, 60, []), (1, 60, []), (1, 60, []), (2, 60, []), (0, 6, [some (([] : List GC).length + 9), none]), (1, 60, []), (0, 9, [some (([] : List GC).length + 11), some (([] : List GC).length + 13), some (([] : List GC).length + 15), some (([] : List GC).length + 17), none, none, none]), (0, 8, [some (([] : List GC).length + 12), none]), (1, 64, []), (0, 8, [some (([] : List GC).length + 14), none]), (1, 64, []), (0, 8, [some (([] : List GC).length + 16), none]), (1, 64, []), (0, 8, [some (([] : List GC).length + 18), none]), (1, 64, []), (0, 7, [some (([] : List GC).length + 20), some (([] : List GC).length + 22)]), (0, 8, [some (([] : List GC).length + 21), none]), (1, 64, []), (0, 8, [some (([] : List GC).length + 23), none]), (1, 64, []), (0, 10, [some (([] : List GC).length + 25), some (([] : List GC).length + 26), some (([] : List GC).length + 27), some (([] : List GC).length + 28), none, none, none, some (([] : List GC).length + 29), some (([] : List GC).length + 30), some (([] : List GC).length + 31), none]), (1, 12, []), (1, 12, []), (1, 12, []), (1, 12, []), (1, 6, []), (1, 6, []), (1, 6, []), (0, 2, [some (([] : List GC).length + 33), none, none, none, none, some (([] : List GC).length + 34), some (([] : List GC).length + 66)]), (1, 60, []), (4, 31, (List.range 31).map (fun i => some (([] : List GC).length + 35 + i))), (3, 13, []), (3, 13, []), (3, 13, []), (3, 13, []), (3, 13, []), (3, 13, []), (3, 13, []), (3, 13, []), (3, 13, []), (3, 13, []), (3, 13, []), (3, 13, []), (3, 13, []), (3, 13, []), (3, 13, []), (3, 13, []), (3, 13, []), (3, 13, []), (3, 13, []), (3, 13, []), (3, 13, []), (3, 13, []), (3, 13, []), (3, 13, []), (3, 13, []), (3, 13, []), (3, 13, []), (3, 13, []), (3, 13, []), (3, 13, []), (3, 13, []), (3, 13, [])]) 67 [vr ([] : List GC).length] [vr (([] : List GC).length + 32), vr ([] : List GC).length] m6 _
  have g6 : fresh 33 (zer m5 32) m6 := by rw [← e32]; exact c6
  have z6 : ∀ x, 1 ≤ x → m6 x = fun _ => 0 := by
    intro x hx
    by_cases q : x < 33
    · rw [g6.1 x q]
      by_cases w : x < 32
      · rw [zer_lt _ w]; exact z5 x hx
      · exact zer_ge _ (by omega)
    · exact g6.2 x (by omega)
  refine z_pR 0 dX11_init_67 ff_X11_47 rfl rfl (fun _ => ⟨rfl, rfl⟩) (fun _ _ _ => rfl) (fun _ => trivial) ?_
  show ZZ X (20, 367) 3 mX11_init (([] : List GC) ++ [(0, 11, [some (([] : List GC).length + 1), some (([] : List GC).length + 8), some (([] : List GC).length + 10), some (([] : List GC).length + 19), some (([] : List GC).length + 24), some (([] : List GC).length + 32), none, none, none, none, none]), (0, 3, [some (([] : List GC).length + 2), some (([] : List GC).length + 3), some (([] : List GC).length + 4), some (([] : List GC).length + 5), some (([] : List GC).length + 6), some (([] : List GC).length + 7), none]), (1, 60, []), (1, 60, []), (1, 60, []), (1, 60, []), (1, 60, []), (2, 60, []), (0, 6, [some (([] : List GC).length + 9), none]), (1, 60, []), (0, 9, [some (([] : List GC).length + 11), some (([] : List GC).length + 13), some (([] : List GC).length + 15), some (([] : List GC).length + 17), none, none, none]), (0, 8, [some (([] : List GC).length + 12), none]), (1, 64, []), (0, 8, [some (([] : List GC).length + 14), none]), (1, 64, []), (0, 8, [some (([] : List GC).length + 16), none]), (1, 64, []), (0, 8, [some (([] : List GC).length + 18), none]), (1, 64, []), (0, 7, [some (([] : List GC).length + 20), some (([] : List GC).length + 22)]), (0, 8, [some (([] : List GC).length + 21), none]), (1, 64, []), (0, 8, [some (([] : List GC).length + 23), none]), (1, 64, []), (0, 10, [some (([] : List GC).length + 25), some (([] : List GC).length + 26), some (([] : List GC).length + 27), some (([] : List GC).length + 28), none, none, none, some (([] : List GC).length + 29), some (([] : List GC).length + 30), some (([] : List GC).length + 31), none]), (1, 12, []), (1, 12, []), (1, 12, []), (1, 12, []), (1, 6, []), (1, 6, []), (1, 6, []), (0, 2, [some (([] : List GC).length + 33), none, none, none, none, some (([] : List GC).length + 34), some (([] : List GC).length + 66)]), (1, 60, []), (4, 31, (List.range 31).map (fun i => some (([] : List GC).length + 35 + i))), (3, 13, []), (3, 13, []), (3, 13, []), (3, 13, []), (3, 13, []), (3, 13, []), (3, 13, []), (3, 13, []), (3, 13, []), (3, 13, []), (3, 13, []), (3, 13, []), (3, 13, []), (3, 13, []), (3, 13, []), (3, 13, []), (3, 13, []), (3, 13, []), (3, 13, []), (3, 13, []), (3, 13, []), (3, 13, []), (3, 13, []), (3, 13, []), (3, 13, []), (3, 13, []), (3, 13, []), (3, 13, []), (3, 13, []), (3, 13, []), (3, 13, []), (3, 13, [])]) 70 [vr ([] : List GC).length] [] m6 _
  refine z_aload_n dX11_init_70 rfl ?_
  refine z_nw (19, 359) dX11_init_71 cl_0 nl_X11_51 in_X0 ii_X0 df_X0 ⟨by decide, by decide⟩ ?_
  refine zz_mem (Pm := fun m => m = zer m6 67) rfl (fun n67 e67 => ?_)
  show ZZ X (19, 359) 3 mX11_init (([] : List GC) ++ ([(0, 11, [some (([] : List GC).length + 1), some (([] : List GC).length + 8), some (([] : List GC).length + 10), some (([] : List GC).length + 19), some (([] : List GC).length + 24), some (([] : List GC).length + 32), none, none, none, none, none]), (0, 3, [some (([] : List GC).length + 2), some (([] : List GC).length + 3), some (([] : List GC).length + 4), some (([] : List GC).length + 5), some (([] : List GC).length + 6), some (([] : List GC).length + 7), none]), (1, 60, []), (1, 60, []), (1, 60, []), (1, 60, []), (1, 60, []), (2, 60, []), (0, 6, [some (([] : List GC).length + 9), none]), (1, 60, []), (0, 9, [some (([] : List GC).length + 11), some (([] : List GC).length + 13), some (([] : List GC).length + 15), some (([] : List GC).length + 17), none, none, none]), (0, 8, [some (([] : List GC).length + 12), none]), (1, 64, []), (0, 8, [some (([] : List GC).length + 14), none]), (1, 64, []), (0, 8, [some (([] : List GC).length + 16), none]), (1, 64, []), (0, 8, [some (([] : List GC).length + 18), none]), (1, 64, []), (0, 7, [some (([] : List GC).length + 20), some (([] : List GC).length + 22)]), (0, 8, [some (([] : List GC).length + 21), none]), (1, 64, []), (0, 8, [some (([] : List GC).length + 23), none]), (1, 64, []), (0, 10, [some (([] : List GC).length + 25), some (([] : List GC).length + 26), some (([] : List GC).length + 27), some (([] : List GC).length + 28), none, none, none, some (([] : List GC).length + 29), some (([] : List GC).length + 30), some (([] : List GC).length + 31), none]), (1, 12, []), (1, 12, []), (1, 12, []), (1, 12, []), (1, 6, []), (1, 6, []), (1, 6, []), (0, 2, [some (([] : List GC).length + 33), none, none, none, none, some (([] : List GC).length + 34), some (([] : List GC).length + 66)]), (1, 60, []), (4, 31, (List.range 31).map (fun i => some (([] : List GC).length + 35 + i))), (3, 13, []), (3, 13, []), (3, 13, []), (3, 13, []), (3, 13, []), (3, 13, []), (3, 13, []), (3, 13, []), (3, 13, []), (3, 13, []), (3, 13, []), (3, 13, []), (3, 13, []), (3, 13, []), (3, 13, []), (3, 13, []), (3, 13, []), (3, 13, []), (3, 13, []), (3, 13, []), (3, 13, []), (3, 13, []), (3, 13, []), (3, 13, []), (3, 13, []), (3, 13, []), (3, 13, []), (3, 13, []), (3, 13, []), (3, 13, []), (3, 13, []), (3, 13, [])] ++ [(0, 0, List.replicate 8 none)])) 74 [vr ([] : List GC).length] [vr (([] : List GC).length + 67), vr ([] : List GC).length] n67 _
  refine z_dup dX11_init_74 (by intro z q; cases q) ?_
  refine z_callI (a := ([] : List GC).length + 67) (b1 := (3, 60)) (b2 := (16, 299)) (As := []) dX11_init_75 ok_X0_init rfl lk_X11_53 rfl (Nat.le_of_ble_eq_true rfl) (by decide) ⟨by decide, by decide⟩ (cn_X0_init ([] : List GC) [(0, 11, [some (([] : List GC).length + 1), some (([] : List GC).length + 8), some (([] : List GC).length + 10), some (([] : List GC).length + 19), some (([] : List GC).length + 24), some (([] : List GC).length + 32), none, none, none, none, none]), (0, 3, [some (([] : List GC).length + 2), some (([] : List GC).length + 3), some (([] : List GC).length + 4), some (([] : List GC).length + 5), some (([] : List GC).length + 6), some (([] : List GC).length + 7), none]), (1, 60, []), (1, 60, []), (1, 60, []), (1, 60, []), (1, 60, []), (2, 60, []), (0, 6, [some (([] : List GC).length + 9), none]), (1, 60, []), (0, 9, [some (([] : List GC).length + 11), some (([] : List GC).length + 13), some (([] : List GC).length + 15), some (([] : List GC).length + 17), none, none, none]), (0, 8, [some (([] : List GC).length + 12), none]), (1, 64, []), (0, 8, [some (([] : List GC).length + 14), none]), (1, 64, []), (0, 8, [some (([] : List GC).length + 16), none]), (1, 64, []), (0, 8, [some (([] : List GC).length + 18), none]), (1, 64, []), (0, 7, [some (([] : List GC).length + 20), some (([] : List GC).length + 22)]), (0, 8, [some (([] : List GC).length + 21), none]), (1, 64, []), (0, 8, [some (([] : List GC).length + 23), none]), (1, 64, []), (0, 10, [some (([] : List GC).length + 25), some (([] : List GC).length + 26), some (([] : List GC).length + 27), some (([] : List GC).length + 28), none, none, none, some (([] : List GC).length + 29), some (([] : List GC).length + 30), some (([] : List GC).length + 31), none]), (1, 12, []), (1, 12, []), (1, 12, []), (1, 12, []), (1, 6, []), (1, 6, []), (1, 6, []), (0, 2, [some (([] : List GC).length + 33), none, none, none, none, some (([] : List GC).length + 34), some (([] : List GC).length + 66)]), (1, 60, []), (4, 31, (List.range 31).map (fun i => some (([] : List GC).length + 35 + i))), (3, 13, []), (3, 13, []), (3, 13, []), (3, 13, []), (3, 13, []), (3, 13, []), (3, 13, []), (3, 13, []), (3, 13, []), (3, 13, []), (3, 13, []), (3, 13, []), (3, 13, []), (3, 13, []), (3, 13, []), (3, 13, []), (3, 13, []), (3, 13, []), (3, 13, []), (3, 13, []), (3, 13, []), (3, 13, []), (3, 13, []), (3, 13, []), (3, 13, []), (3, 13, []), (3, 13, []), (3, 13, []), (3, 13, []), (3, 13, []), (3, 13, []), (3, 13, [])]) (fun G' v m7 hq _ => ?_)
  obtain ⟨rfl, rfl, c7⟩ := hq
  show ZZ X (16, 299) 3 mX11_init (([] : List GC) ++ [(0, 11, [some (([] : List GC).length + 1), some (([] : List GC).length + 8), some (([] : List GC).length + 10), some (([] : List GC).length + 19), some (([] : List GC).length + 24), some (([] : List GC).length + 32), none, none, none, none, none]), (0, 3, [some (([] : List GC).length + 2), some (([] : List GC).length + 3), some (([] : List GC).length + 4), some (([] : List GC).length + 5), some (([] : List GC).length + 6), some (([] : List GC).length + 7), none]), (1, 60, []), (1, 60, []), (1, 60, []), (1, 60, []), (1, 60, []), (2, 60, []), (0, 6, [some (([] : List GC).length + 9), none]), (1, 60, []), (0, 9, [some (([] : List GC).length + 11), some (([] : List GC).length + 13), some (([] : List GC).length + 15), some (([] : List GC).length + 17), none, none, none]), (0, 8, [some (([] : List GC).length + 12), none]), (1, 64, []), (0, 8, [some (([] : List GC).length + 14), none]), (1, 64, []), (0, 8, [some (([] : List GC).length + 16), none]), (1, 64, []), (0, 8, [some (([] : List GC).length + 18), none]), (1, 64, []), (0, 7, [some (([] : List GC).length + 20), some (([] : List GC).length + 22)]), (0, 8, [some (([] : List GC).length + 21), none]), (1, 64, []), (0, 8, [some (([] : List GC).length + 23), none]), (1, 64, []), (0, 10, [some (([] : List GC).length + 25), some (([] : List GC).length + 26), some (([] : List GC).length + 27), some (([] : List GC).length + 28), none, none, none, some (([] : List GC).length + 29), some (([] : List GC).length + 30), some (([] : List GC).length + 31), none]), (1, 12, []), (1, 12, []), (1, 12, []), (1, 12, []), (1, 6, []), (1, 6, []), (1, 6, []), (0, 2, [some (([] : List GC).length + 33), none, none, none, none, some (([] : List GC).length + 34), some (([] : List GC).length + 66)]), (1, 60, []), (4, 31, (List.range 31).map (fun i => some (([] : List GC).length + 35 + i))), (3, 13, []), (3, 13, []), (3, 13, []), (3, 13, []), (3, 13, []), (3, 13, []), (3, 13, []), (3, 13, []), (3, 13, []), (3, 13, []), (3, 13, []), (3, 13, []), (3, 13, []), (3, 13, []), (3, 13, []), (3, 13, []), (3, 13, []), (3, 13, []), (3, 13, []), (3, 13, []), (3, 13, []), (3, 13, []), (3, 13, []), (3, 13, []), (3, 13, []), (3, 13, []), (3, 13, []), (3, 13, []), (3, 13, []), (3, 13, []), (3, 13, []), (3, 13, []), (0, 0, [some (([] : List GC).length + 68), some (([] : List GC).length + 69), some (([] : List GC).length + 70), none, none, none, none, none]), (1, 20, []), (1, 20, []), (1, 20, [])]) 78 [vr ([] : List GC).length] [vr (([] : List GC).length + 67), vr ([] : List GC).length] m7 _
  have g7 : fresh 68 (zer m6 67) m7 := by rw [← e67]; exact c7
  have z7 : ∀ x, 1 ≤ x → m7 x = fun _ => 0 := by
    intro x hx
    by_cases q : x < 68
    · rw [g7.1 x q]
      by_cases w : x < 67
      · rw [zer_lt _ w]; exact z6 x hx
      · exact zer_ge _ (by omega)
    · exact g7.2 x (by omega)
  refine z_pR 0 dX11_init_78 ff_X11_54 rfl rfl (fun _ => ⟨rfl, rfl⟩) (fun _ _ _ => rfl) (fun _ => trivial) ?_
  show ZZ X (16, 299) 3 mX11_init (([] : List GC) ++ [(0, 11, [some (([] : List GC).length + 1), some (([] : List GC).length + 8), some (([] : List GC).length + 10), some (([] : List GC).length + 19), some (([] : List GC).length + 24), some (([] : List GC).length + 32), some (([] : List GC).length + 67), none, none, none, none]), (0, 3, [some (([] : List GC).length + 2), some (([] : List GC).length + 3), some (([] : List GC).length + 4), some (([] : List GC).length + 5), some (([] : List GC).length + 6), some (([] : List GC).length + 7), none]), (1, 60, []), (1, 60, []), (1, 60, []), (1, 60, []), (1, 60, []), (2, 60, []), (0, 6, [some (([] : List GC).length + 9), none]), (1, 60, []), (0, 9, [some (([] : List GC).length + 11), some (([] : List GC).length + 13), some (([] : List GC).length + 15), some (([] : List GC).length + 17), none, none, none]), (0, 8, [some (([] : List GC).length + 12), none]), (1, 64, []), (0, 8, [some (([] : List GC).length + 14), none]), (1, 64, []), (0, 8, [some (([] : List GC).length + 16), none]), (1, 64, []), (0, 8, [some (([] : List GC).length + 18), none]), (1, 64, []), (0, 7, [some (([] : List GC).length + 20), some (([] : List GC).length + 22)]), (0, 8, [some (([] : List GC).length + 21), none]), (1, 64, []), (0, 8, [some (([] : List GC).length + 23), none]), (1, 64, []), (0, 10, [some (([] : List GC).length + 25), some (([] : List GC).length + 26), some (([] : List GC).length + 27), some (([] : List GC).length + 28), none, none, none, some (([] : List GC).length + 29), some (([] : List GC).length + 30), some (([] : List GC).length + 31), none]), (1, 12, []), (1, 12, []), (1, 12, []), (1, 12, []), (1, 6, []), (1, 6, []), (1, 6, []), (0, 2, [some (([] : List GC).length + 33), none, none, none, none, some (([] : List GC).length + 34), some (([] : List GC).length + 66)]), (1, 60, []), (4, 31, (List.range 31).map (fun i => some (([] : List GC).length + 35 + i))), (3, 13, []), (3, 13, []), (3, 13, []), (3, 13, []), (3, 13, []), (3, 13, []), (3, 13, []), (3, 13, []), (3, 13, []), (3, 13, []), (3, 13, []), (3, 13, []), (3, 13, []), (3, 13, []), (3, 13, []), (3, 13, []), (3, 13, []), (3, 13, []), (3, 13, []), (3, 13, []), (3, 13, []), (3, 13, []), (3, 13, []), (3, 13, []), (3, 13, []), (3, 13, []), (3, 13, []), (3, 13, []), (3, 13, []), (3, 13, []), (3, 13, []), (3, 13, []), (0, 0, [some (([] : List GC).length + 68), some (([] : List GC).length + 69), some (([] : List GC).length + 70), none, none, none, none, none]), (1, 20, []), (1, 20, []), (1, 20, [])]) 81 [vr ([] : List GC).length] [] m7 _
  refine z_aload_n dX11_init_81 rfl ?_
  refine z_nw (15, 297) dX11_init_82 cl_5 nl_X11_58 in_X5 ii_X5 df_X5 ⟨by decide, by decide⟩ ?_
  refine zz_mem (Pm := fun m => m = zer m7 71) rfl (fun n71 e71 => ?_)
  show ZZ X (15, 297) 3 mX11_init (([] : List GC) ++ ([(0, 11, [some (([] : List GC).length + 1), some (([] : List GC).length + 8), some (([] : List GC).length + 10), some (([] : List GC).length + 19), some (([] : List GC).length + 24), some (([] : List GC).length + 32), some (([] : List GC).length + 67), none, none, none, none]), (0, 3, [some (([] : List GC).length + 2), some (([] : List GC).length + 3), some (([] : List GC).length + 4), some (([] : List GC).length + 5), some (([] : List GC).length + 6), some (([] : List GC).length + 7), none]), (1, 60, []), (1, 60, []), (1, 60, []), (1, 60, []), (1, 60, []), (2, 60, []), (0, 6, [some (([] : List GC).length + 9), none]), (1, 60, []), (0, 9, [some (([] : List GC).length + 11), some (([] : List GC).length + 13), some (([] : List GC).length + 15), some (([] : List GC).length + 17), none, none, none]), (0, 8, [some (([] : List GC).length + 12), none]), (1, 64, []), (0, 8, [some (([] : List GC).length + 14), none]), (1, 64, []), (0, 8, [some (([] : List GC).length + 16), none]), (1, 64, []), (0, 8, [some (([] : List GC).length + 18), none]), (1, 64, []), (0, 7, [some (([] : List GC).length + 20), some (([] : List GC).length + 22)]), (0, 8, [some (([] : List GC).length + 21), none]), (1, 64, []), (0, 8, [some (([] : List GC).length + 23), none]), (1, 64, []), (0, 10, [some (([] : List GC).length + 25), some (([] : List GC).length + 26), some (([] : List GC).length + 27), some (([] : List GC).length + 28), none, none, none, some (([] : List GC).length + 29), some (([] : List GC).length + 30), some (([] : List GC).length + 31), none]), (1, 12, []), (1, 12, []), (1, 12, []), (1, 12, []), (1, 6, []), (1, 6, []), (1, 6, []), (0, 2, [some (([] : List GC).length + 33), none, none, none, none, some (([] : List GC).length + 34), some (([] : List GC).length + 66)]), (1, 60, []), (4, 31, (List.range 31).map (fun i => some (([] : List GC).length + 35 + i))), (3, 13, []), (3, 13, []), (3, 13, []), (3, 13, []), (3, 13, []), (3, 13, []), (3, 13, []), (3, 13, []), (3, 13, []), (3, 13, []), (3, 13, []), (3, 13, []), (3, 13, []), (3, 13, []), (3, 13, []), (3, 13, []), (3, 13, []), (3, 13, []), (3, 13, []), (3, 13, []), (3, 13, []), (3, 13, []), (3, 13, []), (3, 13, []), (3, 13, []), (3, 13, []), (3, 13, []), (3, 13, []), (3, 13, []), (3, 13, []), (3, 13, []), (3, 13, []), (0, 0, [some (([] : List GC).length + 68), some (([] : List GC).length + 69), some (([] : List GC).length + 70), none, none, none, none, none]), (1, 20, []), (1, 20, []), (1, 20, [])] ++ [(0, 5, List.replicate 2 none)])) 85 [vr ([] : List GC).length] [vr (([] : List GC).length + 71), vr ([] : List GC).length] n71 _
  refine z_dup dX11_init_85 (by intro z q; cases q) ?_
  refine z_callI (a := ([] : List GC).length + 71) (b1 := (2, 8)) (b2 := (13, 289)) (As := []) dX11_init_86 ok_X5_init rfl lk_X11_60 rfl (Nat.le_of_ble_eq_true rfl) (by decide) ⟨by decide, by decide⟩ (cn_X5_init ([] : List GC) [(0, 11, [some (([] : List GC).length + 1), some (([] : List GC).length + 8), some (([] : List GC).length + 10), some (([] : List GC).length + 19), some (([] : List GC).length + 24), some (([] : List GC).length + 32), some (([] : List GC).length + 67), none, none, none, none]), (0, 3, [some (([] : List GC).length + 2), some (([] : List GC).length + 3), some (([] : List GC).length + 4), some (([] : List GC).length + 5), some (([] : List GC).length + 6), some (([] : List GC).length + 7), none]), (1, 60, []), (1, 60, []), (1, 60, []), (1, 60, []), (1, 60, []), (2, 60, []), (0, 6, [some (([] : List GC).length + 9), none]), (1, 60, []), (0, 9, [some (([] : List GC).length + 11), some (([] : List GC).length + 13), some (([] : List GC).length + 15), some (([] : List GC).length + 17), none, none, none]), (0, 8, [some (([] : List GC).length + 12), none]), (1, 64, []), (0, 8, [some (([] : List GC).length + 14), none]), (1, 64, []), (0, 8, [some (([] : List GC).length + 16), none]), (1, 64, []), (0, 8, [some (([] : List GC).length + 18), none]), (1, 64, []), (0, 7, [some (([] : List GC).length + 20), some (([] : List GC).length + 22)]), (0, 8, [some (([] : List GC).length + 21), none]), (1, 64, []), (0, 8, [some (([] : List GC).length + 23), none]), (1, 64, []), (0, 10, [some (([] : List GC).length + 25), some (([] : List GC).length + 26), some (([] : List GC).length + 27), some (([] : List GC).length + 28), none, none, none, some (([] : List GC).length + 29), some (([] : List GC).length + 30), some (([] : List GC).length + 31), none]), (1, 12, []), (1, 12, []), (1, 12, []), (1, 12, []), (1, 6, []), (1, 6, []), (1, 6, []), (0, 2, [some (([] : List GC).length + 33), none, none, none, none, some (([] : List GC).length + 34), some (([] : List GC).length + 66)]), (1, 60, []), (4, 31, (List.range 31).map (fun i => some (([] : List GC).length + 35 + i))), (3, 13, []), (3, 13, []), (3, 13, []), (3, 13, []), (3, 13, []), (3, 13, []), (3, 13, []), (3, 13, []), (3, 13, []), (3, 13, []), (3, 13, []), (3, 13, []), (3, 13, []), (3, 13, []), (3, 13, []), (3, 13, []), (3, 13, []), (3, 13, []), (3, 13, []), (3, 13, []), (3, 13, []), (3, 13, []), (3, 13, []), (3, 13, []), (3, 13, []), (3, 13, []), (3, 13, []), (3, 13, []), (3, 13, []), (3, 13, []), (3, 13, []), (3, 13, []), (0, 0, [some (([] : List GC).length + 68), some (([] : List GC).length + 69), some (([] : List GC).length + 70), none, none, none, none, none]), (1, 20, []), (1, 20, []), (1, 20, [])]) (fun G' v m8 hq _ => ?_)
  obtain ⟨rfl, rfl, c8⟩ := hq
  show ZZ X (13, 289) 3 mX11_init (([] : List GC) ++ [(0, 11, [some (([] : List GC).length + 1), some (([] : List GC).length + 8), some (([] : List GC).length + 10), some (([] : List GC).length + 19), some (([] : List GC).length + 24), some (([] : List GC).length + 32), some (([] : List GC).length + 67), none, none, none, none]), (0, 3, [some (([] : List GC).length + 2), some (([] : List GC).length + 3), some (([] : List GC).length + 4), some (([] : List GC).length + 5), some (([] : List GC).length + 6), some (([] : List GC).length + 7), none]), (1, 60, []), (1, 60, []), (1, 60, []), (1, 60, []), (1, 60, []), (2, 60, []), (0, 6, [some (([] : List GC).length + 9), none]), (1, 60, []), (0, 9, [some (([] : List GC).length + 11), some (([] : List GC).length + 13), some (([] : List GC).length + 15), some (([] : List GC).length + 17), none, none, none]), (0, 8, [some (([] : List GC).length + 12), none]), (1, 64, []), (0, 8, [some (([] : List GC).length + 14), none]), (1, 64, []), (0, 8, [some (([] : List GC).length + 16), none]), (1, 64, []), (0, 8, [some (([] : List GC).length + 18), none]), (1, 64, []), (0, 7, [some (([] : List GC).length + 20), some (([] : List GC).length + 22)]), (0, 8, [some (([] : List GC).length + 21), none]), (1, 64, []), (0, 8, [some (([] : List GC).length + 23), none]), (1, 64, []), (0, 10, [some (([] : List GC).length + 25), some (([] : List GC).length + 26), some (([] : List GC).length + 27), some (([] : List GC).length + 28), none, none, none, some (([] : List GC).length + 29), some (([] : List GC).length + 30), some (([] : List GC).length + 31), none]), (1, 12, []), (1, 12, []), (1, 12, []), (1, 12, []), (1, 6, []), (1, 6, []), (1, 6, []), (0, 2, [some (([] : List GC).length + 33), none, none, none, none, some (([] : List GC).length + 34), some (([] : List GC).length + 66)]), (1, 60, []), (4, 31, (List.range 31).map (fun i => some (([] : List GC).length + 35 + i))), (3, 13, []), (3, 13, []), (3, 13, []), (3, 13, []), (3, 13, []), (3, 13, []), (3, 13, []), (3, 13, []), (3, 13, []), (3, 13, []), (3, 13, []), (3, 13, []), (3, 13, []), (3, 13, []), (3, 13, []), (3, 13, []), (3, 13, []), (3, 13, []), (3, 13, []), (3, 13, []), (3, 13, []), (3, 13, []), (3, 13, []), (3, 13, []), (3, 13, []), (3, 13, []), (3, 13, []), (3, 13, []), (3, 13, []), (3, 13, []), (3, 13, []), (3, 13, []), (0, 0, [some (([] : List GC).length + 68), some (([] : List GC).length + 69), some (([] : List GC).length + 70), none, none, none, none, none]), (1, 20, []), (1, 20, []), (1, 20, []), (0, 5, [some (([] : List GC).length + 72), some (([] : List GC).length + 73)]), (1, 4, []), (1, 4, [])]) 89 [vr ([] : List GC).length] [vr (([] : List GC).length + 71), vr ([] : List GC).length] m8 _
  have g8 : ((∀ j : Nat, j < 4 → m8 72 (j : Int) = 1) ∧ ∀ j : Nat, j < 4 → m8 73 (j : Int) = 1) ∧ (∀ x, x < 72 → m8 x = zer m7 71 x) ∧ ∀ x, 73 < x → m8 x = fun _ => 0 := by rw [← e71]; exact c8
  have z8 : ∀ x, 1 ≤ x → x ≠ 72 → x ≠ 73 → m8 x = fun _ => 0 := by
    intro x hx h1 h2
    by_cases q : x < 72
    · rw [g8.2.1 x q]
      by_cases w : x < 71
      · rw [zer_lt _ w]; exact z7 x hx
      · exact zer_ge _ (by omega)
    · exact g8.2.2 x (by omega)
  refine z_pR 0 dX11_init_89 ff_X11_61 rfl rfl (fun _ => ⟨rfl, rfl⟩) (fun _ _ _ => rfl) (fun _ => trivial) ?_
  show ZZ X (13, 289) 3 mX11_init (([] : List GC) ++ [(0, 11, [some (([] : List GC).length + 1), some (([] : List GC).length + 8), some (([] : List GC).length + 10), some (([] : List GC).length + 19), some (([] : List GC).length + 24), some (([] : List GC).length + 32), some (([] : List GC).length + 67), some (([] : List GC).length + 71), none, none, none]), (0, 3, [some (([] : List GC).length + 2), some (([] : List GC).length + 3), some (([] : List GC).length + 4), some (([] : List GC).length + 5), some (([] : List GC).length + 6), some (([] : List GC).length + 7), none]), (1, 60, []), (1, 60, []), (1, 60, []), (1, 60, []), (1, 60, []), (2, 60, []), (0, 6, [some (([] : List GC).length + 9), none]), (1, 60, []), (0, 9, [some (([] : List GC).length + 11), some (([] : List GC).length + 13), some (([] : List GC).length + 15), some (([] : List GC).length + 17), none, none, none]), (0, 8, [some (([] : List GC).length + 12), none]), (1, 64, []), (0, 8, [some (([] : List GC).length + 14), none]), (1, 64, []), (0, 8, [some (([] : List GC).length + 16), none]), (1, 64, []), (0, 8, [some (([] : List GC).length + 18), none]), (1, 64, []), (0, 7, [some (([] : List GC).length + 20), some (([] : List GC).length + 22)]), (0, 8, [some (([] : List GC).length + 21), none]), (1, 64, []), (0, 8, [some (([] : List GC).length + 23), none]), (1, 64, []), (0, 10, [some (([] : List GC).length + 25), some (([] : List GC).length + 26), some (([] : List GC).length + 27), some (([] : List GC).length + 28), none, none, none, some (([] : List GC).length + 29), some (([] : List GC).length + 30), some (([] : List GC).length + 31), none]), (1, 12, []), (1, 12, []), (1, 12, []), (1, 12, []), (1, 6, []), (1, 6, []), (1, 6, []), (0, 2, [some (([] : List GC).length + 33), none, none, none, none, some (([] : List GC).length + 34), some (([] : List GC).length + 66)]), (1, 60, []), (4, 31, (List.range 31).map (fun i => some (([] : List GC).length + 35 + i))), (3, 13, []), (3, 13, []), (3, 13, []), (3, 13, []), (3, 13, []), (3, 13, []), (3, 13, []), (3, 13, []), (3, 13, []), (3, 13, []), (3, 13, []), (3, 13, []), (3, 13, []), (3, 13, []), (3, 13, []), (3, 13, []), (3, 13, []), (3, 13, []), (3, 13, []), (3, 13, []), (3, 13, []), (3, 13, []), (3, 13, []), (3, 13, []), (3, 13, []), (3, 13, []), (3, 13, []), (3, 13, []), (3, 13, []), (3, 13, []), (3, 13, []), (3, 13, []), (0, 0, [some (([] : List GC).length + 68), some (([] : List GC).length + 69), some (([] : List GC).length + 70), none, none, none, none, none]), (1, 20, []), (1, 20, []), (1, 20, []), (0, 5, [some (([] : List GC).length + 72), some (([] : List GC).length + 73)]), (1, 4, []), (1, 4, [])]) 92 [vr ([] : List GC).length] [] m8 _
  refine z_aload_n dX11_init_92 rfl ?_
  refine z_nw (12, 286) dX11_init_93 cl_1 nl_X11_65 in_X1 ii_X1 df_X1 ⟨by decide, by decide⟩ ?_
  refine zz_mem (Pm := fun m => m = zer m8 74) rfl (fun n74 e74 => ?_)
  show ZZ X (12, 286) 3 mX11_init (([] : List GC) ++ ([(0, 11, [some (([] : List GC).length + 1), some (([] : List GC).length + 8), some (([] : List GC).length + 10), some (([] : List GC).length + 19), some (([] : List GC).length + 24), some (([] : List GC).length + 32), some (([] : List GC).length + 67), some (([] : List GC).length + 71), none, none, none]), (0, 3, [some (([] : List GC).length + 2), some (([] : List GC).length + 3), some (([] : List GC).length + 4), some (([] : List GC).length + 5), some (([] : List GC).length + 6), some (([] : List GC).length + 7), none]), (1, 60, []), (1, 60, []), (1, 60, []), (1, 60, []), (1, 60, []), (2, 60, []), (0, 6, [some (([] : List GC).length + 9), none]), (1, 60, []), (0, 9, [some (([] : List GC).length + 11), some (([] : List GC).length + 13), some (([] : List GC).length + 15), some (([] : List GC).length + 17), none, none, none]), (0, 8, [some (([] : List GC).length + 12), none]), (1, 64, []), (0, 8, [some (([] : List GC).length + 14), none]), (1, 64, []), (0, 8, [some (([] : List GC).length + 16), none]), (1, 64, []), (0, 8, [some (([] : List GC).length + 18), none]), (1, 64, []), (0, 7, [some (([] : List GC).length + 20), some (([] : List GC).length + 22)]), (0, 8, [some (([] : List GC).length + 21), none]), (1, 64, []), (0, 8, [some (([] : List GC).length + 23), none]), (1, 64, []), (0, 10, [some (([] : List GC).length + 25), some (([] : List GC).length + 26), some (([] : List GC).length + 27), some (([] : List GC).length + 28), none, none, none, some (([] : List GC).length + 29), some (([] : List GC).length + 30), some (([] : List GC).length + 31), none]), (1, 12, []), (1, 12, []), (1, 12, []), (1, 12, []), (1, 6, []), (1, 6, []), (1, 6, []), (0, 2, [some (([] : List GC).length + 33), none, none, none, none, some (([] : List GC).length + 34), some (([] : List GC).length + 66)]), (1, 60, []), (4, 31, (List.range 31).map (fun i => some (([] : List GC).length + 35 + i))), (3, 13, []), (3, 13, []), (3, 13, []), (3, 13, []), (3, 13, []), (3, 13, []), (3, 13, []), (3, 13, []), (3, 13, []), (3, 13, []), (3, 13, []), (3, 13, []), (3, 13, []), (3, 13, []), (3, 13, []), (3, 13, []), (3, 13, []), (3, 13, []), (3, 13, []), (3, 13, []), (3, 13, []), (3, 13, []), (3, 13, []), (3, 13, []), (3, 13, []), (3, 13, []), (3, 13, []), (3, 13, []), (3, 13, []), (3, 13, []), (3, 13, []), (3, 13, []), (0, 0, [some (([] : List GC).length + 68), some (([] : List GC).length + 69), some (([] : List GC).length + 70), none, none, none, none, none]), (1, 20, []), (1, 20, []), (1, 20, []), (0, 5, [some (([] : List GC).length + 72), some (([] : List GC).length + 73)]), (1, 4, []), (1, 4, [])] ++ [(0, 1, List.replicate 3 none)])) 96 [vr ([] : List GC).length] [vr (([] : List GC).length + 74), vr ([] : List GC).length] n74 _
  refine z_dup dX11_init_96 (by intro z q; cases q) ?_
  refine z_callI (a := ([] : List GC).length + 74) (b1 := (3, 18)) (b2 := (9, 268)) (As := []) dX11_init_97 ok_X1_init rfl lk_X11_67 rfl (Nat.le_of_ble_eq_true rfl) (by decide) ⟨by decide, by decide⟩ (cn_X1_init ([] : List GC) [(0, 11, [some (([] : List GC).length + 1), some (([] : List GC).length + 8), some (([] : List GC).length + 10), some (([] : List GC).length + 19), some (([] : List GC).length + 24), some (([] : List GC).length + 32), some (([] : List GC).length + 67), some (([] : List GC).length + 71), none, none, none]), (0, 3, [some (([] : List GC).length + 2), some (([] : List GC).length + 3), some (([] : List GC).length + 4), some (([] : List GC).length + 5), some (([] : List GC).length + 6), some (([] : List GC).length + 7), none]), (1, 60, []), (1, 60, []), (1, 60, []), (1, 60, []), (1, 60, []), (2, 60, []), (0, 6, [some (([] : List GC).length + 9), none]), (1, 60, []), (0, 9, [some (([] : List GC).length + 11), some (([] : List GC).length + 13), some (([] : List GC).length + 15), some (([] : List GC).length + 17), none, none, none]), (0, 8, [some (([] : List GC).length + 12), none]), (1, 64, []), (0, 8, [some (([] : List GC).length + 14), none]), (1, 64, []), (0, 8, [some (([] : List GC).length + 16), none]), (1, 64, []), (0, 8, [some (([] : List GC).length + 18), none]), (1, 64, []), (0, 7, [some (([] : List GC).length + 20), some (([] : List GC).length + 22)]), (0, 8, [some (([] : List GC).length + 21), none]), (1, 64, []), (0, 8, [some (([] : List GC).length + 23), none]), (1, 64, []), (0, 10, [some (([] : List GC).length + 25), some (([] : List GC).length + 26), some (([] : List GC).length + 27), some (([] : List GC).length + 28), none, none, none, some (([] : List GC).length + 29), some (([] : List GC).length + 30), some (([] : List GC).length + 31), none]), (1, 12, []), (1, 12, []), (1, 12, []), (1, 12, []), (1, 6, []), (1, 6, []), (1, 6, []), (0, 2, [some (([] : List GC).length + 33), none, none, none, none, some (([] : List GC).length + 34), some (([] : List GC).length + 66)]), (1, 60, []), (4, 31, (List.range 31).map (fun i => some (([] : List GC).length + 35 + i))), (3, 13, []), (3, 13, []), (3, 13, []), (3, 13, []), (3, 13, []), (3, 13, []), (3, 13, []), (3, 13, []), (3, 13, []), (3, 13, []), (3, 13, []), (3, 13, []), (3, 13, []), (3, 13, []), (3, 13, []), (3, 13, []), (3, 13, []), (3, 13, []), (3, 13, []), (3, 13, []), (3, 13, []), (3, 13, []), (3, 13, []), (3, 13, []), (3, 13, []), (3, 13, []), (3, 13, []), (3, 13, []), (3, 13, []), (3, 13, []), (3, 13, []), (3, 13, []), (0, 0, [some (([] : List GC).length + 68), some (([] : List GC).length + 69), some (([] : List GC).length + 70), none, none, none, none, none]), (1, 20, []), (1, 20, []), (1, 20, []), (0, 5, [some (([] : List GC).length + 72), some (([] : List GC).length + 73)]), (1, 4, []), (1, 4, [])]) (fun G' v m9 hq _ => ?_)
  obtain ⟨rfl, rfl, c9⟩ := hq
  show ZZ X (9, 268) 3 mX11_init (([] : List GC) ++ [(0, 11, [some (([] : List GC).length + 1), some (([] : List GC).length + 8), some (([] : List GC).length + 10), some (([] : List GC).length + 19), some (([] : List GC).length + 24), some (([] : List GC).length + 32), some (([] : List GC).length + 67), some (([] : List GC).length + 71), none, none, none]), (0, 3, [some (([] : List GC).length + 2), some (([] : List GC).length + 3), some (([] : List GC).length + 4), some (([] : List GC).length + 5), some (([] : List GC).length + 6), some (([] : List GC).length + 7), none]), (1, 60, []), (1, 60, []), (1, 60, []), (1, 60, []), (1, 60, []), (2, 60, []), (0, 6, [some (([] : List GC).length + 9), none]), (1, 60, []), (0, 9, [some (([] : List GC).length + 11), some (([] : List GC).length + 13), some (([] : List GC).length + 15), some (([] : List GC).length + 17), none, none, none]), (0, 8, [some (([] : List GC).length + 12), none]), (1, 64, []), (0, 8, [some (([] : List GC).length + 14), none]), (1, 64, []), (0, 8, [some (([] : List GC).length + 16), none]), (1, 64, []), (0, 8, [some (([] : List GC).length + 18), none]), (1, 64, []), (0, 7, [some (([] : List GC).length + 20), some (([] : List GC).length + 22)]), (0, 8, [some (([] : List GC).length + 21), none]), (1, 64, []), (0, 8, [some (([] : List GC).length + 23), none]), (1, 64, []), (0, 10, [some (([] : List GC).length + 25), some (([] : List GC).length + 26), some (([] : List GC).length + 27), some (([] : List GC).length + 28), none, none, none, some (([] : List GC).length + 29), some (([] : List GC).length + 30), some (([] : List GC).length + 31), none]), (1, 12, []), (1, 12, []), (1, 12, []), (1, 12, []), (1, 6, []), (1, 6, []), (1, 6, []), (0, 2, [some (([] : List GC).length + 33), none, none, none, none, some (([] : List GC).length + 34), some (([] : List GC).length + 66)]), (1, 60, []), (4, 31, (List.range 31).map (fun i => some (([] : List GC).length + 35 + i))), (3, 13, []), (3, 13, []), (3, 13, []), (3, 13, []), (3, 13, []), (3, 13, []), (3, 13, []), (3, 13, []), (3, 13, []), (3, 13, []), (3, 13, []), (3, 13, []), (3, 13, []), (3, 13, []), (3, 13, []), (3, 13, []), (3, 13, []), (3, 13, []), (3, 13, []), (3, 13, []), (3, 13, []), (3, 13, []), (3, 13, []), (3, 13, []), (3, 13, []), (3, 13, []), (3, 13, []), (3, 13, []), (3, 13, []), (3, 13, []), (3, 13, []), (3, 13, []), (0, 0, [some (([] : List GC).length + 68), some (([] : List GC).length + 69), some (([] : List GC).length + 70), none, none, none, none, none]), (1, 20, []), (1, 20, []), (1, 20, []), (0, 5, [some (([] : List GC).length + 72), some (([] : List GC).length + 73)]), (1, 4, []), (1, 4, []), (0, 1, [some (([] : List GC).length + 75), some (([] : List GC).length + 76), some (([] : List GC).length + 77)]), (1, 6, []), (1, 6, []), (1, 6, [])]) 100 [vr ([] : List GC).length] [vr (([] : List GC).length + 74), vr ([] : List GC).length] m9 _
  have g9 : (∀ j : Nat, j < 6 → m9 75 (j : Int) = -1) ∧ (∀ x, x < 75 → m9 x = zer m8 74 x) ∧ ∀ x, 75 < x → m9 x = fun _ => 0 := by rw [← e74]; exact c9
  have z9 : ∀ x, 1 ≤ x → x ≠ 72 → x ≠ 73 → x ≠ 75 → m9 x = fun _ => 0 := by
    intro x hx h1 h2 h3
    by_cases q : x < 75
    · rw [g9.2.1 x q]
      by_cases w : x < 74
      · rw [zer_lt _ w]; exact z8 x hx h1 h2
      · exact zer_ge _ (by omega)
    · exact g9.2.2 x (by omega)
  have y9 : ∀ x, x < 74 → m9 x = m8 x := fun x hx => by rw [g9.2.1 x (by omega), zer_lt _ hx]
  refine z_pR 0 dX11_init_100 ff_X11_68 rfl rfl (fun _ => ⟨rfl, rfl⟩) (fun _ _ _ => rfl) (fun _ => trivial) ?_
  show ZZ X (9, 268) 3 mX11_init (([] : List GC) ++ [(0, 11, [some (([] : List GC).length + 1), some (([] : List GC).length + 8), some (([] : List GC).length + 10), some (([] : List GC).length + 19), some (([] : List GC).length + 24), some (([] : List GC).length + 32), some (([] : List GC).length + 67), some (([] : List GC).length + 71), some (([] : List GC).length + 74), none, none]), (0, 3, [some (([] : List GC).length + 2), some (([] : List GC).length + 3), some (([] : List GC).length + 4), some (([] : List GC).length + 5), some (([] : List GC).length + 6), some (([] : List GC).length + 7), none]), (1, 60, []), (1, 60, []), (1, 60, []), (1, 60, []), (1, 60, []), (2, 60, []), (0, 6, [some (([] : List GC).length + 9), none]), (1, 60, []), (0, 9, [some (([] : List GC).length + 11), some (([] : List GC).length + 13), some (([] : List GC).length + 15), some (([] : List GC).length + 17), none, none, none]), (0, 8, [some (([] : List GC).length + 12), none]), (1, 64, []), (0, 8, [some (([] : List GC).length + 14), none]), (1, 64, []), (0, 8, [some (([] : List GC).length + 16), none]), (1, 64, []), (0, 8, [some (([] : List GC).length + 18), none]), (1, 64, []), (0, 7, [some (([] : List GC).length + 20), some (([] : List GC).length + 22)]), (0, 8, [some (([] : List GC).length + 21), none]), (1, 64, []), (0, 8, [some (([] : List GC).length + 23), none]), (1, 64, []), (0, 10, [some (([] : List GC).length + 25), some (([] : List GC).length + 26), some (([] : List GC).length + 27), some (([] : List GC).length + 28), none, none, none, some (([] : List GC).length + 29), some (([] : List GC).length + 30), some (([] : List GC).length + 31), none]), (1, 12, []), (1, 12, []), (1, 12, []), (1, 12, []), (1, 6, []), (1, 6, []), (1, 6, []), (0, 2, [some (([] : List GC).length + 33), none, none, none, none, some (([] : List GC).length + 34), some (([] : List GC).length + 66)]), (1, 60, []), (4, 31, (List.range 31).map (fun i => some (([] : List GC).length + 35 + i))), (3, 13, []), (3, 13, []), (3, 13, []), (3, 13, []), (3, 13, []), (3, 13, []), (3, 13, []), (3, 13, []), (3, 13, []), (3, 13, []), (3, 13, []), (3, 13, []), (3, 13, []), (3, 13, []), (3, 13, []), (3, 13, []), (3, 13, []), (3, 13, []), (3, 13, []), (3, 13, []), (3, 13, []), (3, 13, []), (3, 13, []), (3, 13, []), (3, 13, []), (3, 13, []), (3, 13, []), (3, 13, []), (3, 13, []), (3, 13, []), (3, 13, []), (3, 13, []), (0, 0, [some (([] : List GC).length + 68), some (([] : List GC).length + 69), some (([] : List GC).length + 70), none, none, none, none, none]), (1, 20, []), (1, 20, []), (1, 20, []), (0, 5, [some (([] : List GC).length + 72), some (([] : List GC).length + 73)]), (1, 4, []), (1, 4, []), (0, 1, [some (([] : List GC).length + 75), some (([] : List GC).length + 76), some (([] : List GC).length + 77)]), (1, 6, []), (1, 6, []), (1, 6, [])]) 103 [vr ([] : List GC).length] [] m9 _
  refine z_aload_n dX11_init_103 rfl ?_
  refine z_nw (8, 264) dX11_init_104 cl_4 nl_X11_72 in_X4 ii_X4 df_X4 ⟨by decide, by decide⟩ ?_
  refine zz_mem (Pm := fun m => m = zer m9 78) rfl (fun n78 e78 => ?_)
  show ZZ X (8, 264) 3 mX11_init (([] : List GC) ++ ([(0, 11, [some (([] : List GC).length + 1), some (([] : List GC).length + 8), some (([] : List GC).length + 10), some (([] : List GC).length + 19), some (([] : List GC).length + 24), some (([] : List GC).length + 32), some (([] : List GC).length + 67), some (([] : List GC).length + 71), some (([] : List GC).length + 74), none, none]), (0, 3, [some (([] : List GC).length + 2), some (([] : List GC).length + 3), some (([] : List GC).length + 4), some (([] : List GC).length + 5), some (([] : List GC).length + 6), some (([] : List GC).length + 7), none]), (1, 60, []), (1, 60, []), (1, 60, []), (1, 60, []), (1, 60, []), (2, 60, []), (0, 6, [some (([] : List GC).length + 9), none]), (1, 60, []), (0, 9, [some (([] : List GC).length + 11), some (([] : List GC).length + 13), some (([] : List GC).length + 15), some (([] : List GC).length + 17), none, none, none]), (0, 8, [some (([] : List GC).length + 12), none]), (1, 64, []), (0, 8, [some (([] : List GC).length + 14), none]), (1, 64, []), (0, 8, [some (([] : List GC).length + 16), none]), (1, 64, []), (0, 8, [some (([] : List GC).length + 18), none]), (1, 64, []), (0, 7, [some (([] : List GC).length + 20), some (([] : List GC).length + 22)]), (0, 8, [some (([] : List GC).length + 21), none]), (1, 64, []), (0, 8, [some (([] : List GC).length + 23), none]), (1, 64, []), (0, 10, [some (([] : List GC).length + 25), some (([] : List GC).length + 26), some (([] : List GC).length + 27), some (([] : List GC).length + 28), none, none, none, some (([] : List GC).length + 29), some (([] : List GC).length + 30), some (([] : List GC).length + 31), none]), (1, 12, []), (1, 12, []), (1, 12, []), (1, 12, []), (1, 6, []), (1, 6, []), (1, 6, []), (0, 2, [some (([] : List GC).length + 33), none, none, none, none, some (([] : List GC).length + 34), some (([] : List GC).length + 66)]), (1, 60, []), (4, 31, (List.range 31).map (fun i => some (([] : List GC).length + 35 + i))), (3, 13, []), (3, 13, []), (3, 13, []), (3, 13, []), (3, 13, []), (3, 13, []), (3, 13, []), (3, 13, []), (3, 13, []), (3, 13, []), (3, 13, []), (3, 13, []), (3, 13, []), (3, 13, []), (3, 13, []), (3, 13, []), (3, 13, []), (3, 13, []), (3, 13, []), (3, 13, []), (3, 13, []), (3, 13, []), (3, 13, []), (3, 13, []), (3, 13, []), (3, 13, []), (3, 13, []), (3, 13, []), (3, 13, []), (3, 13, []), (3, 13, []), (3, 13, []), (0, 0, [some (([] : List GC).length + 68), some (([] : List GC).length + 69), some (([] : List GC).length + 70), none, none, none, none, none]), (1, 20, []), (1, 20, []), (1, 20, []), (0, 5, [some (([] : List GC).length + 72), some (([] : List GC).length + 73)]), (1, 4, []), (1, 4, []), (0, 1, [some (([] : List GC).length + 75), some (([] : List GC).length + 76), some (([] : List GC).length + 77)]), (1, 6, []), (1, 6, []), (1, 6, [])] ++ [(0, 4, List.replicate 4 none)])) 107 [vr ([] : List GC).length] [vr (([] : List GC).length + 78), vr ([] : List GC).length] n78 _
  refine z_dup dX11_init_107 (by intro z q; cases q) ?_
  refine z_callI (a := ([] : List GC).length + 78) (b1 := (8, 264)) (b2 := (0, 0)) (As := []) dX11_init_108 ok_X4_init rfl lk_X11_74 rfl (Nat.le_of_ble_eq_true rfl) (by decide) ⟨by decide, by decide⟩ (cn_X4_init ([] : List GC) [(0, 11, [some (([] : List GC).length + 1), some (([] : List GC).length + 8), some (([] : List GC).length + 10), some (([] : List GC).length + 19), some (([] : List GC).length + 24), some (([] : List GC).length + 32), some (([] : List GC).length + 67), some (([] : List GC).length + 71), some (([] : List GC).length + 74), none, none]), (0, 3, [some (([] : List GC).length + 2), some (([] : List GC).length + 3), some (([] : List GC).length + 4), some (([] : List GC).length + 5), some (([] : List GC).length + 6), some (([] : List GC).length + 7), none]), (1, 60, []), (1, 60, []), (1, 60, []), (1, 60, []), (1, 60, []), (2, 60, []), (0, 6, [some (([] : List GC).length + 9), none]), (1, 60, []), (0, 9, [some (([] : List GC).length + 11), some (([] : List GC).length + 13), some (([] : List GC).length + 15), some (([] : List GC).length + 17), none, none, none]), (0, 8, [some (([] : List GC).length + 12), none]), (1, 64, []), (0, 8, [some (([] : List GC).length + 14), none]), (1, 64, []), (0, 8, [some (([] : List GC).length + 16), none]), (1, 64, []), (0, 8, [some (([] : List GC).length + 18), none]), (1, 64, []), (0, 7, [some (([] : List GC).length + 20), some (([] : List GC).length + 22)]), (0, 8, [some (([] : List GC).length + 21), none]), (1, 64, []), (0, 8, [some (([] : List GC).length + 23), none]), (1, 64, []), (0, 10, [some (([] : List GC).length + 25), some (([] : List GC).length + 26), some (([] : List GC).length + 27), some (([] : List GC).length + 28), none, none, none, some (([] : List GC).length + 29), some (([] : List GC).length + 30), some (([] : List GC).length + 31), none]), (1, 12, []), (1, 12, []), (1, 12, []), (1, 12, []), (1, 6, []), (1, 6, []), (1, 6, []), (0, 2, [some (([] : List GC).length + 33), none, none, none, none, some (([] : List GC).length + 34), some (([] : List GC).length + 66)]), (1, 60, []), (4, 31, (List.range 31).map (fun i => some (([] : List GC).length + 35 + i))), (3, 13, []), (3, 13, []), (3, 13, []), (3, 13, []), (3, 13, []), (3, 13, []), (3, 13, []), (3, 13, []), (3, 13, []), (3, 13, []), (3, 13, []), (3, 13, []), (3, 13, []), (3, 13, []), (3, 13, []), (3, 13, []), (3, 13, []), (3, 13, []), (3, 13, []), (3, 13, []), (3, 13, []), (3, 13, []), (3, 13, []), (3, 13, []), (3, 13, []), (3, 13, []), (3, 13, []), (3, 13, []), (3, 13, []), (3, 13, []), (3, 13, []), (3, 13, []), (0, 0, [some (([] : List GC).length + 68), some (([] : List GC).length + 69), some (([] : List GC).length + 70), none, none, none, none, none]), (1, 20, []), (1, 20, []), (1, 20, []), (0, 5, [some (([] : List GC).length + 72), some (([] : List GC).length + 73)]), (1, 4, []), (1, 4, []), (0, 1, [some (([] : List GC).length + 75), some (([] : List GC).length + 76), some (([] : List GC).length + 77)]), (1, 6, []), (1, 6, []), (1, 6, [])]) (fun G' v m10 hq _ => ?_)
  obtain ⟨rfl, rfl, c10⟩ := hq
  show ZZ X (0, 0) 3 mX11_init (([] : List GC) ++ [(0, 11, [some (([] : List GC).length + 1), some (([] : List GC).length + 8), some (([] : List GC).length + 10), some (([] : List GC).length + 19), some (([] : List GC).length + 24), some (([] : List GC).length + 32), some (([] : List GC).length + 67), some (([] : List GC).length + 71), some (([] : List GC).length + 74), none, none]), (0, 3, [some (([] : List GC).length + 2), some (([] : List GC).length + 3), some (([] : List GC).length + 4), some (([] : List GC).length + 5), some (([] : List GC).length + 6), some (([] : List GC).length + 7), none]), (1, 60, []), (1, 60, []), (1, 60, []), (1, 60, []), (1, 60, []), (2, 60, []), (0, 6, [some (([] : List GC).length + 9), none]), (1, 60, []), (0, 9, [some (([] : List GC).length + 11), some (([] : List GC).length + 13), some (([] : List GC).length + 15), some (([] : List GC).length + 17), none, none, none]), (0, 8, [some (([] : List GC).length + 12), none]), (1, 64, []), (0, 8, [some (([] : List GC).length + 14), none]), (1, 64, []), (0, 8, [some (([] : List GC).length + 16), none]), (1, 64, []), (0, 8, [some (([] : List GC).length + 18), none]), (1, 64, []), (0, 7, [some (([] : List GC).length + 20), some (([] : List GC).length + 22)]), (0, 8, [some (([] : List GC).length + 21), none]), (1, 64, []), (0, 8, [some (([] : List GC).length + 23), none]), (1, 64, []), (0, 10, [some (([] : List GC).length + 25), some (([] : List GC).length + 26), some (([] : List GC).length + 27), some (([] : List GC).length + 28), none, none, none, some (([] : List GC).length + 29), some (([] : List GC).length + 30), some (([] : List GC).length + 31), none]), (1, 12, []), (1, 12, []), (1, 12, []), (1, 12, []), (1, 6, []), (1, 6, []), (1, 6, []), (0, 2, [some (([] : List GC).length + 33), none, none, none, none, some (([] : List GC).length + 34), some (([] : List GC).length + 66)]), (1, 60, []), (4, 31, (List.range 31).map (fun i => some (([] : List GC).length + 35 + i))), (3, 13, []), (3, 13, []), (3, 13, []), (3, 13, []), (3, 13, []), (3, 13, []), (3, 13, []), (3, 13, []), (3, 13, []), (3, 13, []), (3, 13, []), (3, 13, []), (3, 13, []), (3, 13, []), (3, 13, []), (3, 13, []), (3, 13, []), (3, 13, []), (3, 13, []), (3, 13, []), (3, 13, []), (3, 13, []), (3, 13, []), (3, 13, []), (3, 13, []), (3, 13, []), (3, 13, []), (3, 13, []), (3, 13, []), (3, 13, []), (3, 13, []), (3, 13, []), (0, 0, [some (([] : List GC).length + 68), some (([] : List GC).length + 69), some (([] : List GC).length + 70), none, none, none, none, none]), (1, 20, []), (1, 20, []), (1, 20, []), (0, 5, [some (([] : List GC).length + 72), some (([] : List GC).length + 73)]), (1, 4, []), (1, 4, []), (0, 1, [some (([] : List GC).length + 75), some (([] : List GC).length + 76), some (([] : List GC).length + 77)]), (1, 6, []), (1, 6, []), (1, 6, []), (0, 4, [some (([] : List GC).length + 79), some (([] : List GC).length + 81), some (([] : List GC).length + 83), some (([] : List GC).length + 85)]), (0, 8, [some (([] : List GC).length + 80), none]), (1, 64, []), (0, 8, [some (([] : List GC).length + 82), none]), (1, 64, []), (0, 8, [some (([] : List GC).length + 84), none]), (1, 64, []), (0, 8, [some (([] : List GC).length + 86), none]), (1, 64, [])]) 111 [vr ([] : List GC).length] [vr (([] : List GC).length + 78), vr ([] : List GC).length] m10 _
  have g10 : natAt m10 81 1 ∧ (∀ x, x < 79 → m10 x = zer m9 78 x) ∧ ∀ x, 79 ≤ x → x ≠ 81 → x ≠ 82 → m10 x = fun _ => 0 := by rw [← e78]; exact c10
  have z10 : ∀ x, 1 ≤ x → x ≠ 72 → x ≠ 73 → x ≠ 75 → x ≠ 81 → x ≠ 82 → m10 x = fun _ => 0 := by
    intro x hx h1 h2 h3 h4 h5
    by_cases q : x < 79
    · rw [g10.2.1 x q]
      by_cases w : x < 78
      · rw [zer_lt _ w]; exact z9 x hx h1 h2 h3
      · exact zer_ge _ (by omega)
    · exact g10.2.2 x (by omega) h4 h5
  have y10 : ∀ x, x < 78 → m10 x = m9 x := fun x hx => by rw [g10.2.1 x (by omega), zer_lt _ hx]
  refine z_pR 0 dX11_init_111 ff_X11_75 rfl rfl (fun _ => ⟨rfl, rfl⟩) (fun _ _ _ => rfl) (fun _ => trivial) ?_
  show ZZ X (0, 0) 3 mX11_init (([] : List GC) ++ [(0, 11, [some (([] : List GC).length + 1), some (([] : List GC).length + 8), some (([] : List GC).length + 10), some (([] : List GC).length + 19), some (([] : List GC).length + 24), some (([] : List GC).length + 32), some (([] : List GC).length + 67), some (([] : List GC).length + 71), some (([] : List GC).length + 74), some (([] : List GC).length + 78), none]), (0, 3, [some (([] : List GC).length + 2), some (([] : List GC).length + 3), some (([] : List GC).length + 4), some (([] : List GC).length + 5), some (([] : List GC).length + 6), some (([] : List GC).length + 7), none]), (1, 60, []), (1, 60, []), (1, 60, []), (1, 60, []), (1, 60, []), (2, 60, []), (0, 6, [some (([] : List GC).length + 9), none]), (1, 60, []), (0, 9, [some (([] : List GC).length + 11), some (([] : List GC).length + 13), some (([] : List GC).length + 15), some (([] : List GC).length + 17), none, none, none]), (0, 8, [some (([] : List GC).length + 12), none]), (1, 64, []), (0, 8, [some (([] : List GC).length + 14), none]), (1, 64, []), (0, 8, [some (([] : List GC).length + 16), none]), (1, 64, []), (0, 8, [some (([] : List GC).length + 18), none]), (1, 64, []), (0, 7, [some (([] : List GC).length + 20), some (([] : List GC).length + 22)]), (0, 8, [some (([] : List GC).length + 21), none]), (1, 64, []), (0, 8, [some (([] : List GC).length + 23), none]), (1, 64, []), (0, 10, [some (([] : List GC).length + 25), some (([] : List GC).length + 26), some (([] : List GC).length + 27), some (([] : List GC).length + 28), none, none, none, some (([] : List GC).length + 29), some (([] : List GC).length + 30), some (([] : List GC).length + 31), none]), (1, 12, []), (1, 12, []), (1, 12, []), (1, 12, []), (1, 6, []), (1, 6, []), (1, 6, []), (0, 2, [some (([] : List GC).length + 33), none, none, none, none, some (([] : List GC).length + 34), some (([] : List GC).length + 66)]), (1, 60, []), (4, 31, (List.range 31).map (fun i => some (([] : List GC).length + 35 + i))), (3, 13, []), (3, 13, []), (3, 13, []), (3, 13, []), (3, 13, []), (3, 13, []), (3, 13, []), (3, 13, []), (3, 13, []), (3, 13, []), (3, 13, []), (3, 13, []), (3, 13, []), (3, 13, []), (3, 13, []), (3, 13, []), (3, 13, []), (3, 13, []), (3, 13, []), (3, 13, []), (3, 13, []), (3, 13, []), (3, 13, []), (3, 13, []), (3, 13, []), (3, 13, []), (3, 13, []), (3, 13, []), (3, 13, []), (3, 13, []), (3, 13, []), (3, 13, []), (0, 0, [some (([] : List GC).length + 68), some (([] : List GC).length + 69), some (([] : List GC).length + 70), none, none, none, none, none]), (1, 20, []), (1, 20, []), (1, 20, []), (0, 5, [some (([] : List GC).length + 72), some (([] : List GC).length + 73)]), (1, 4, []), (1, 4, []), (0, 1, [some (([] : List GC).length + 75), some (([] : List GC).length + 76), some (([] : List GC).length + 77)]), (1, 6, []), (1, 6, []), (1, 6, []), (0, 4, [some (([] : List GC).length + 79), some (([] : List GC).length + 81), some (([] : List GC).length + 83), some (([] : List GC).length + 85)]), (0, 8, [some (([] : List GC).length + 80), none]), (1, 64, []), (0, 8, [some (([] : List GC).length + 82), none]), (1, 64, []), (0, 8, [some (([] : List GC).length + 84), none]), (1, 64, []), (0, 8, [some (([] : List GC).length + 86), none]), (1, 64, [])]) 114 [vr ([] : List GC).length] [] m10 _
  refine z_aload_n dX11_init_114 rfl ?_
  refine z_sipush dX11_init_115 (by decide) ?_
  refine z_pI 10 dX11_init_118 fm_X11_79 (by first | rfl | assumption) rfl rfl ?_
  show ZZ X (0, 0) 3 mX11_init (([] : List GC) ++ [(0, 11, [some (([] : List GC).length + 1), some (([] : List GC).length + 8), some (([] : List GC).length + 10), some (([] : List GC).length + 19), some (([] : List GC).length + 24), some (([] : List GC).length + 32), some (([] : List GC).length + 67), some (([] : List GC).length + 71), some (([] : List GC).length + 74), some (([] : List GC).length + 78), none]), (0, 3, [some (([] : List GC).length + 2), some (([] : List GC).length + 3), some (([] : List GC).length + 4), some (([] : List GC).length + 5), some (([] : List GC).length + 6), some (([] : List GC).length + 7), none]), (1, 60, []), (1, 60, []), (1, 60, []), (1, 60, []), (1, 60, []), (2, 60, []), (0, 6, [some (([] : List GC).length + 9), none]), (1, 60, []), (0, 9, [some (([] : List GC).length + 11), some (([] : List GC).length + 13), some (([] : List GC).length + 15), some (([] : List GC).length + 17), none, none, none]), (0, 8, [some (([] : List GC).length + 12), none]), (1, 64, []), (0, 8, [some (([] : List GC).length + 14), none]), (1, 64, []), (0, 8, [some (([] : List GC).length + 16), none]), (1, 64, []), (0, 8, [some (([] : List GC).length + 18), none]), (1, 64, []), (0, 7, [some (([] : List GC).length + 20), some (([] : List GC).length + 22)]), (0, 8, [some (([] : List GC).length + 21), none]), (1, 64, []), (0, 8, [some (([] : List GC).length + 23), none]), (1, 64, []), (0, 10, [some (([] : List GC).length + 25), some (([] : List GC).length + 26), some (([] : List GC).length + 27), some (([] : List GC).length + 28), none, none, none, some (([] : List GC).length + 29), some (([] : List GC).length + 30), some (([] : List GC).length + 31), none]), (1, 12, []), (1, 12, []), (1, 12, []), (1, 12, []), (1, 6, []), (1, 6, []), (1, 6, []), (0, 2, [some (([] : List GC).length + 33), none, none, none, none, some (([] : List GC).length + 34), some (([] : List GC).length + 66)]), (1, 60, []), (4, 31, (List.range 31).map (fun i => some (([] : List GC).length + 35 + i))), (3, 13, []), (3, 13, []), (3, 13, []), (3, 13, []), (3, 13, []), (3, 13, []), (3, 13, []), (3, 13, []), (3, 13, []), (3, 13, []), (3, 13, []), (3, 13, []), (3, 13, []), (3, 13, []), (3, 13, []), (3, 13, []), (3, 13, []), (3, 13, []), (3, 13, []), (3, 13, []), (3, 13, []), (3, 13, []), (3, 13, []), (3, 13, []), (3, 13, []), (3, 13, []), (3, 13, []), (3, 13, []), (3, 13, []), (3, 13, []), (3, 13, []), (3, 13, []), (0, 0, [some (([] : List GC).length + 68), some (([] : List GC).length + 69), some (([] : List GC).length + 70), none, none, none, none, none]), (1, 20, []), (1, 20, []), (1, 20, []), (0, 5, [some (([] : List GC).length + 72), some (([] : List GC).length + 73)]), (1, 4, []), (1, 4, []), (0, 1, [some (([] : List GC).length + 75), some (([] : List GC).length + 76), some (([] : List GC).length + 77)]), (1, 6, []), (1, 6, []), (1, 6, []), (0, 4, [some (([] : List GC).length + 79), some (([] : List GC).length + 81), some (([] : List GC).length + 83), some (([] : List GC).length + 85)]), (0, 8, [some (([] : List GC).length + 80), none]), (1, 64, []), (0, 8, [some (([] : List GC).length + 82), none]), (1, 64, []), (0, 8, [some (([] : List GC).length + 84), none]), (1, 64, []), (0, 8, [some (([] : List GC).length + 86), none]), (1, 64, [])]) 121 [vr 0] [] (mset m10 0 10 150) _
  refine z_vret dX11_init_121 rfl ?_
  refine ⟨rfl, by decide +kernel, mset_eq _ _ _ _, fun x hx _ h1 h2 h3 h4 h5 => ?_, fun j hj => ⟨?_, ?_⟩, fun j hj => ?_, ?_⟩
  · rw [mset_ne _ (by omega)]; exact z10 x hx h1 h2 h3 h4 h5
  · rw [mset_ne _ (by decide), y10 72 (by decide), y9 72 (by decide)]; exact g8.1.1 j hj
  · rw [mset_ne _ (by decide), y10 73 (by decide), y9 73 (by decide)]; exact g8.1.2 j hj
  · rw [mset_ne _ (by decide), y10 75 (by decide)]; exact g9.1 j hj
  · exact g10.1.kept (mset_ne _ (by decide) _ _) (mset_ne _ (by decide) _ _)
theorem gT_len : gT.length = 87 := by decide +kernel
theorem reg_zero {r : Nat} (hr : r < 6) (h89 : mem 89 = fun _ => 0) (h90 : mem 90 = fun _ => 0) : regAt mem r 0 := by
  have hrow : ∀ j : Int, rowM mem r j = 0 := fun j => by unfold rowM; rw [h89]
  refine ⟨fun i _ => by rw [hrow]; decide, ?_, 0, by decide, by rw [h90]; rfl, fun j _ _ => hrow _, Or.inl rfl⟩
  rw [nv_pad (k := 0) (by decide) (fun i _ _ => hrow _)]
  rfl
/-- how a class is made, by our numbers -/
def cTold (m : Mem) : Prop := m 0 10 = 150 ∧ (∀ x, 1 ≤ x → x < 88 → x ≠ 32 → x ≠ 73 → x ≠ 74 → x ≠ 76 → x ≠ 82 → x ≠ 83 → m x = fun _ => 0) ∧ (∀ j : Nat, j < 4 → m 73 (j : Int) = 1 ∧ m 74 (j : Int) = 1) ∧ (∀ j : Nat, j < 6 → m 76 (j : Int) = -1) ∧ natAt m 82 1
/-- how a reference is made -/
def mTold (m : Mem) : Prop := (m 88 3 = 0 ∧ m 88 4 = 150 ∧ m 88 13 = 0 ∧ m 88 29 = 0) ∧ (∀ k f : Nat, k < 2 → f < 4 → m 103 (2 * (f : Int) + (k : Int)) = 1) ∧ (∀ i : Nat, i < 6 → m 32 (3 * (i : Int)) = -1 ∧ m 32 (3 * (i : Int) + 1) = 0 ∧ m 32 (3 * (i : Int) + 2) = 0) ∧ regAt m 0 0 ∧ regAt m 1 1
theorem x12_tail {m1 : Mem} (f1 : (∀ x, x < 89 → x ≠ 32 → m1 x = mem x) ∧ ∀ x, 89 ≤ x ∨ x = 32 → m1 x = fun _ => 0) (h88 : mem 88 = fun _ => 0) : ZZ X (0, 0) 2 mX12_init G0 138 [vr 88, vd] [] m1 (pC G0 fun m => mTold m ∧ ∀ x, x < 88 → x ≠ 32 → m x = mem x) := by
  have b0 : ∀ x, 89 ≤ x ∨ x = 32 → m1 x = fun _ => 0 := f1.2
  have e88 : m1 88 = fun _ => 0 := (f1.1 88 (by decide) (by decide)).trans h88
  have last : ∀ (m : Mem) (u1 : VV), (∀ x, x < 88 → x ≠ 32 → m x = mem x) → m 88 = mset m1 88 4 150 88 → (∀ x, 89 ≤ x → x ≠ 103 → m x = fun _ => 0) → (∀ k f : Nat, k < 2 → f < 4 → m 103 (2 * (f : Int) + (k : Int)) = 1) → (∀ i : Nat, i < 6 → m 32 (3 * (i : Int)) = -1 ∧ m 32 (3 * (i : Int) + 1) = 0 ∧ m 32 (3 * (i : Int) + 2) = 0) → ZZ X (0, 0) 2 mX12_init G0 201 [vr 88, u1] [] m (pC G0 fun m => mTold m ∧ ∀ x, x < 88 → x ≠ 32 → m x = mem x) := by
    intro m u1 h1 h2 h3 h4 h5
    have z0 := reg_zero (mem := m) (r := 0) (by decide) (h3 89 (by decide) (by decide)) (h3 90 (by decide) (by decide))
    refine z_aload_n dX12_init_201 rfl ?_
    refine z_iconst dX12_init_202 (by decide) ?_
    refine z_lconst (z := 1) dX12_init_203 rfl (by decide) ?_
    refine z_V2v dX12_init_204 ok_X12_sets lk_X12_63 (by first | rfl | assumption) rfl rfl (Nat.le_of_ble_eq_true rfl) (by decide) (cm_X12_sets (r := 1) (v := 1) (by decide) (by decide)) (fun m9 hm9 => ?_)
    obtain ⟨r9, o9⟩ := hm9
    refine z_vret dX12_init_207 rfl ?_
    refine ⟨rfl, rfl, ⟨⟨?_, ?_, ?_, ?_⟩, fun k f hk hf => ?_, fun i hi => ?_, z0.off o9 (by decide), r9⟩, fun x hx hx2 => ?_⟩
    · rw [o9.1 88 (by decide) (by decide), h2, mset_nej _ _ (by decide), e88]
    · rw [o9.1 88 (by decide) (by decide), h2]; exact mset_eq _ _ _ _
    · rw [o9.1 88 (by decide) (by decide), h2, mset_nej _ _ (by decide), e88]
    · rw [o9.1 88 (by decide) (by decide), h2, mset_nej _ _ (by decide), e88]
    · rw [o9.1 103 (by decide) (by decide)]; exact h4 k f hk hf
    · rw [o9.1 32 (by decide) (by decide)]; exact h5 i hi
    · rw [o9.1 x (by omega) (by omega)]; exact h1 x hx hx2
  have two : ∀ (e i : Nat) (m : Mem), i + e = 6 → (∀ x, x < 88 → x ≠ 32 → m x = mem x) → m 88 = mset m1 88 4 150 88 → (∀ x, 89 ≤ x → x ≠ 103 → m x = fun _ => 0) → (∀ k f : Nat, k < 2 → f < 4 → m 103 (2 * (f : Int) + (k : Int)) = 1) → (∀ j : Nat, j < 6 → (j < i → m 32 (3 * (j : Int)) = -1) ∧ m 32 (3 * (j : Int) + 1) = 0 ∧ m 32 (3 * (j : Int) + 2) = 0) → ZZ X (0, 0) 2 mX12_init G0 180 [vr 88, vi (i : Int)] [] m (pC G0 fun m => mTold m ∧ ∀ x, x < 88 → x ≠ 32 → m x = mem x) := by
    intro e
    induction e with
    | zero =>
      intro i m hi h1 h2 h3 h4 h5
      have : i = 6 := by omega
      subst this
      refine z_iload_n dX12_init_180 rfl ?_
      refine z_bipush dX12_init_181 (by decide) ?_
      refine z_icmp_ge 201 dX12_init_183 (by decide) (fun h183 => ?_) (fun h183 => ?_)
      · exact last m _ h1 h2 h3 h4 (fun j hj => ⟨(h5 j hj).1 hj, (h5 j hj).2⟩)
      · omega
    | succ e ih =>
      intro i m hi h1 h2 h3 h4 h5
      refine z_iload_n dX12_init_180 rfl ?_
      refine z_bipush dX12_init_181 (by decide) ?_
      refine z_icmp_ge 201 dX12_init_183 (by decide) (fun h183 => ?_) (fun h183 => ?_)
      · omega
      · refine z_aload_n dX12_init_186 rfl ?_
        refine z_getR (ty := .int) dX12_init_187 fl_X12_56 (by first | rfl | assumption) rfl rfl ?_
        refine z_iconst dX12_init_190 (by decide) ?_
        refine z_iload_n dX12_init_191 rfl ?_
        refine z_imul dX12_init_192 (by omega) ?_
        refine z_iconst dX12_init_193 (by decide) ?_
        refine z_iast dX12_init_194 (by first | rfl | assumption) (by omega) (by omega) ?_
        refine z_iinc dX12_init_195 rfl (by omega) (by decide) rfl ?_
        dsimp only [List.set]
        refine z_goto 180 dX12_init_198 (by decide) ?_
        refine ih (i + 1) _ (by omega) (fun x hx hx2 => by rw [mset_ne _ hx2]; exact h1 x hx hx2) (by rw [mset_ne _ (by decide)]; exact h2) (fun x a b => by rw [mset_ne _ (by omega)]; exact h3 x a b) (fun k f hk hf => by rw [mset_ne _ (by decide)]; exact h4 k f hk hf) (fun j hj => ⟨fun q => ?_, ?_, ?_⟩)
        · by_cases w : j = i
          · subst w; exact mset_eq _ _ _ _
          · rw [mset_nej _ _ (by omega)]; exact (h5 j hj).1 (by omega)
        · rw [mset_nej _ _ (by omega)]; exact (h5 j hj).2.1
        · rw [mset_nej _ _ (by omega)]; exact (h5 j hj).2.2
  have one : ∀ (e i : Nat) (m : Mem), i + e = 4 → (∀ x, x < 88 → x ≠ 32 → m x = mem x) → m 88 = mset m1 88 4 150 88 → (∀ x, 89 ≤ x ∨ x = 32 → x ≠ 103 → m x = fun _ => 0) → (∀ k f : Nat, k < 2 → f < i → m 103 (2 * (f : Int) + (k : Int)) = 1) → ZZ X (0, 0) 2 mX12_init G0 147 [vr 88, vi (i : Int)] [] m (pC G0 fun m => mTold m ∧ ∀ x, x < 88 → x ≠ 32 → m x = mem x) := by
    intro e
    induction e with
    | zero =>
      intro i m hi h1 h2 h3 h4
      have : i = 4 := by omega
      subst this
      have e32 := h3 32 (by decide) (by decide)
      refine z_iload_n dX12_init_147 rfl ?_
      refine z_iconst dX12_init_148 (by decide) ?_
      refine z_icmp_ge 178 dX12_init_149 (by decide) (fun h149 => ?_) (fun h149 => ?_)
      · refine z_iconst dX12_init_178 (by decide) ?_
        refine z_istore_n dX12_init_179 (by decide) rfl ?_
        dsimp only [List.set]
        exact two 6 0 m (by omega) h1 h2 (fun x a b => h3 x (Or.inl a) b) h4 (fun j hj => ⟨fun q => by omega, by rw [e32], by rw [e32]⟩)
      · omega
    | succ e ih =>
      intro i m hi h1 h2 h3 h4
      refine z_iload_n dX12_init_147 rfl ?_
      refine z_iconst dX12_init_148 (by decide) ?_
      refine z_icmp_ge 178 dX12_init_149 (by decide) (fun h149 => ?_) (fun h149 => ?_)
      · omega
      · refine z_aload_n dX12_init_152 rfl ?_
        refine z_getR (ty := .int) dX12_init_153 fl_X12_53 (by first | rfl | assumption) rfl rfl ?_
        refine z_iconst dX12_init_156 (by decide) ?_
        refine z_iload_n dX12_init_157 rfl ?_
        refine z_imul dX12_init_158 (by omega) ?_
        refine z_iconst dX12_init_159 (by decide) ?_
        refine z_iast dX12_init_160 (by first | rfl | assumption) (by omega) (by omega) ?_
        refine z_aload_n dX12_init_161 rfl ?_
        refine z_getR (ty := .int) dX12_init_162 fl_X12_53 (by first | rfl | assumption) rfl rfl ?_
        refine z_iconst dX12_init_165 (by decide) ?_
        refine z_iload_n dX12_init_166 rfl ?_
        refine z_imul dX12_init_167 (by omega) ?_
        refine z_iconst dX12_init_168 (by decide) ?_
        refine z_iadd dX12_init_169 (by omega) ?_
        refine z_iconst dX12_init_170 (by decide) ?_
        refine z_iast dX12_init_171 (by first | rfl | assumption) (by omega) (by omega) ?_
        refine z_iinc dX12_init_172 rfl (by omega) (by decide) rfl ?_
        dsimp only [List.set]
        refine z_goto 147 dX12_init_175 (by decide) ?_
        refine ih (i + 1) _ (by omega) (fun x hx hx2 => by rw [mset_ne _ (by omega), mset_ne _ (by omega)]; exact h1 x hx hx2) (by rw [mset_ne _ (by decide), mset_ne _ (by decide)]; exact h2) (fun x a b => by rw [mset_ne _ b, mset_ne _ b]; exact h3 x a b) (fun k f hk hf => ?_)
        by_cases w : f = i
        · subst w
          obtain rfl | rfl : k = 0 ∨ k = 1 := by omega
          · rw [mset_nej _ _ (by omega), show 2 * (f : Int) + ((0 : Nat) : Int) = 2 * (f : Int) by omega]
            exact mset_eq _ _ _ _
          · exact mset_eq _ _ _ _
        · rw [mset_nej _ _ (by omega), mset_nej _ _ (by omega)]; exact h4 k f hk (by omega)
  refine z_aload_n dX12_init_138 rfl ?_
  refine z_sipush dX12_init_139 (by decide) ?_
  refine z_pI 4 dX12_init_142 fm_X12_59 (by first | rfl | assumption) rfl rfl ?_
  refine z_iconst dX12_init_145 (by decide) ?_
  refine z_istore_n dX12_init_146 (by decide) rfl ?_
  dsimp only [List.set]
  exact one 4 0 _ (by omega) (fun x hx hx2 => by rw [mset_ne _ (by omega)]; exact f1.1 x (by omega) hx2) rfl (fun x a _ => by rw [mset_ne _ (by omega)]; exact b0 x a) (fun k f hk hf => by omega)
theorem cm_X12_init (h87 : mem 87 = fun _ => 0) : CM X (16, 12183) 2 mX12_init (gT ++ [(0, 12, List.replicate 36 none)]) [vr gT.length] mem (pC GR fun m => mTold (fun a => m (pR a)) ∧ ∀ x, x < 88 → x ≠ 32 → m (pR x) = mem (pR x)) := by
  refine CM.of (by decide +kernel) 1 (Nat.le_of_ble_eq_true rfl) ?_
  show ZZ X (16, 12183) 2 mX12_init (gT ++ [(0, 12, List.replicate 36 none)]) 0 [vr gT.length, vd] [] mem _
  refine z_aload_n dX12_init_0 rfl ?_
  refine z_objI dX12_init_1 oi_X12_1 oi_in oi_co (Nat.le_of_ble_eq_true rfl) (by decide) ?_
  refine z_aload_n dX12_init_4 rfl ?_
  refine z_sipush dX12_init_5 (by decide) ?_
  refine z_nI 396 (15, 11787) dX12_init_8 (by decide) ⟨by decide, by decide⟩ ?_
  refine zz_mem (Pm := fresh (gT.length + 1) mem) (fresh.base mem (gT.length + 1)) (fun m1 f1 => ?_)
  show ZZ X (15, 11787) 2 mX12_init (gT ++ [(0, 12, [none, none, none, none, none, none, none, none, none, none, none, none, none, none, none, none, none, none, none, none, none, none, none, none, none, none, none, none, none, none, none, none, none, none, none, none]), (1, 396, [])]) 10 [vr gT.length, vd] [vr (gT.length + 1), vr gT.length] m1 _
  refine z_pR 0 dX12_init_10 ff_X12_7 rfl rfl (fun _ => ⟨rfl, rfl⟩) (fun _ _ _ => rfl) (fun _ => trivial) ?_
  show ZZ X (15, 11787) 2 mX12_init (gT ++ [(0, 12, [some (gT.length + 1), none, none, none, none, none, none, none, none, none, none, none, none, none, none, none, none, none, none, none, none, none, none, none, none, none, none, none, none, none, none, none, none, none, none, none]), (1, 396, [])]) 13 [vr gT.length, vd] [] m1 _
  refine z_aload_n dX12_init_13 rfl ?_
  refine z_bipush dX12_init_14 (by decide) ?_
  refine z_nI 6 (14, 11781) dX12_init_16 (by decide) ⟨by decide, by decide⟩ ?_
  refine zz_mem (Pm := fresh (gT.length + 1) mem) (f1.zr (show gT.length + 1 ≤ gT.length + 2 by omega)) (fun m2 f2 => ?_)
  show ZZ X (14, 11781) 2 mX12_init (gT ++ [(0, 12, [some (gT.length + 1), none, none, none, none, none, none, none, none, none, none, none, none, none, none, none, none, none, none, none, none, none, none, none, none, none, none, none, none, none, none, none, none, none, none, none]), (1, 396, []), (1, 6, [])]) 18 [vr gT.length, vd] [vr (gT.length + 2), vr gT.length] m2 _
  refine z_pR 0 dX12_init_18 ff_X12_13 rfl rfl (fun _ => ⟨rfl, rfl⟩) (fun _ _ _ => rfl) (fun _ => trivial) ?_
  show ZZ X (14, 11781) 2 mX12_init (gT ++ [(0, 12, [some (gT.length + 1), some (gT.length + 2), none, none, none, none, none, none, none, none, none, none, none, none, none, none, none, none, none, none, none, none, none, none, none, none, none, none, none, none, none, none, none, none, none, none]), (1, 396, []), (1, 6, [])]) 21 [vr gT.length, vd] [] m2 _
  refine z_aload_n dX12_init_21 rfl ?_
  refine z_sipush dX12_init_22 (by decide) ?_
  refine z_nI 360 (13, 11421) dX12_init_25 (by decide) ⟨by decide, by decide⟩ ?_
  refine zz_mem (Pm := fresh (gT.length + 1) mem) (f2.zr (show gT.length + 1 ≤ gT.length + 3 by omega)) (fun m3 f3 => ?_)
  show ZZ X (13, 11421) 2 mX12_init (gT ++ [(0, 12, [some (gT.length + 1), some (gT.length + 2), none, none, none, none, none, none, none, none, none, none, none, none, none, none, none, none, none, none, none, none, none, none, none, none, none, none, none, none, none, none, none, none, none, none]), (1, 396, []), (1, 6, []), (1, 360, [])]) 27 [vr gT.length, vd] [vr (gT.length + 3), vr gT.length] m3 _
  refine z_pR 0 dX12_init_27 ff_X12_16 rfl rfl (fun _ => ⟨rfl, rfl⟩) (fun _ _ _ => rfl) (fun _ => trivial) ?_
  show ZZ X (13, 11421) 2 mX12_init (gT ++ [(0, 12, [some (gT.length + 1), some (gT.length + 2), some (gT.length + 3), none, none, none, none, none, none, none, none, none, none, none, none, none, none, none, none, none, none, none, none, none, none, none, none, none, none, none, none, none, none, none, none, none]), (1, 396, []), (1, 6, []), (1, 360, [])]) 30 [vr gT.length, vd] [] m3 _
  refine z_aload_n dX12_init_30 rfl ?_
  refine z_bipush dX12_init_31 (by decide) ?_
  refine z_nI 60 (12, 11361) dX12_init_33 (by decide) ⟨by decide, by decide⟩ ?_
  refine zz_mem (Pm := fresh (gT.length + 1) mem) (f3.zr (show gT.length + 1 ≤ gT.length + 4 by omega)) (fun m4 f4 => ?_)
  show ZZ X (12, 11361) 2 mX12_init (gT ++ [(0, 12, [some (gT.length + 1), some (gT.length + 2), some (gT.length + 3), none, none, none, none, none, none, none, none, none, none, none, none, none, none, none, none, none, none, none, none, none, none, none, none, none, none, none, none, none, none, none, none, none]), (1, 396, []), (1, 6, []), (1, 360, []), (1, 60, [])]) 35 [vr gT.length, vd] [vr (gT.length + 4), vr gT.length] m4 _
  refine z_pR 0 dX12_init_35 ff_X12_19 rfl rfl (fun _ => ⟨rfl, rfl⟩) (fun _ _ _ => rfl) (fun _ => trivial) ?_
  show ZZ X (12, 11361) 2 mX12_init (gT ++ [(0, 12, [some (gT.length + 1), some (gT.length + 2), some (gT.length + 3), none, none, some (gT.length + 4), none, none, none, none, none, none, none, none, none, none, none, none, none, none, none, none, none, none, none, none, none, none, none, none, none, none, none, none, none, none]), (1, 396, []), (1, 6, []), (1, 360, []), (1, 60, [])]) 38 [vr gT.length, vd] [] m4 _
  refine z_aload_n dX12_init_38 rfl ?_
  refine z_sipush dX12_init_39 (by decide) ?_
  refine z_nI 5168 (11, 6193) dX12_init_42 (by decide) ⟨by decide, by decide⟩ ?_
  refine zz_mem (Pm := fresh (gT.length + 1) mem) (f4.zr (show gT.length + 1 ≤ gT.length + 5 by omega)) (fun m5 f5 => ?_)
  show ZZ X (11, 6193) 2 mX12_init (gT ++ [(0, 12, [some (gT.length + 1), some (gT.length + 2), some (gT.length + 3), none, none, some (gT.length + 4), none, none, none, none, none, none, none, none, none, none, none, none, none, none, none, none, none, none, none, none, none, none, none, none, none, none, none, none, none, none]), (1, 396, []), (1, 6, []), (1, 360, []), (1, 60, []), (1, 5168, [])]) 44 [vr gT.length, vd] [vr (gT.length + 5), vr gT.length] m5 _
  refine z_pR 0 dX12_init_44 ff_X12_22 rfl rfl (fun _ => ⟨rfl, rfl⟩) (fun _ _ _ => rfl) (fun _ => trivial) ?_
  show ZZ X (11, 6193) 2 mX12_init (gT ++ [(0, 12, [some (gT.length + 1), some (gT.length + 2), some (gT.length + 3), none, none, some (gT.length + 4), none, some (gT.length + 5), none, none, none, none, none, none, none, none, none, none, none, none, none, none, none, none, none, none, none, none, none, none, none, none, none, none, none, none]), (1, 396, []), (1, 6, []), (1, 360, []), (1, 60, []), (1, 5168, [])]) 47 [vr gT.length, vd] [] m5 _
  refine z_aload_n dX12_init_47 rfl ?_
  refine z_sipush dX12_init_48 (by decide) ?_
  refine z_nI 5168 (10, 1025) dX12_init_51 (by decide) ⟨by decide, by decide⟩ ?_
  refine zz_mem (Pm := fresh (gT.length + 1) mem) (f5.zr (show gT.length + 1 ≤ gT.length + 6 by omega)) (fun m6 f6 => ?_)
  show ZZ X (10, 1025) 2 mX12_init (gT ++ [(0, 12, [some (gT.length + 1), some (gT.length + 2), some (gT.length + 3), none, none, some (gT.length + 4), none, some (gT.length + 5), none, none, none, none, none, none, none, none, none, none, none, none, none, none, none, none, none, none, none, none, none, none, none, none, none, none, none, none]), (1, 396, []), (1, 6, []), (1, 360, []), (1, 60, []), (1, 5168, []), (1, 5168, [])]) 53 [vr gT.length, vd] [vr (gT.length + 6), vr gT.length] m6 _
  refine z_pR 0 dX12_init_53 ff_X12_25 rfl rfl (fun _ => ⟨rfl, rfl⟩) (fun _ _ _ => rfl) (fun _ => trivial) ?_
  show ZZ X (10, 1025) 2 mX12_init (gT ++ [(0, 12, [some (gT.length + 1), some (gT.length + 2), some (gT.length + 3), none, none, some (gT.length + 4), none, some (gT.length + 5), some (gT.length + 6), none, none, none, none, none, none, none, none, none, none, none, none, none, none, none, none, none, none, none, none, none, none, none, none, none, none, none]), (1, 396, []), (1, 6, []), (1, 360, []), (1, 60, []), (1, 5168, []), (1, 5168, [])]) 56 [vr gT.length, vd] [] m6 _
  refine z_aload_n dX12_init_56 rfl ?_
  refine z_bipush dX12_init_57 (by decide) ?_
  refine z_nI 48 (9, 977) dX12_init_59 (by decide) ⟨by decide, by decide⟩ ?_
  refine zz_mem (Pm := fresh (gT.length + 1) mem) (f6.zr (show gT.length + 1 ≤ gT.length + 7 by omega)) (fun m7 f7 => ?_)
  show ZZ X (9, 977) 2 mX12_init (gT ++ [(0, 12, [some (gT.length + 1), some (gT.length + 2), some (gT.length + 3), none, none, some (gT.length + 4), none, some (gT.length + 5), some (gT.length + 6), none, none, none, none, none, none, none, none, none, none, none, none, none, none, none, none, none, none, none, none, none, none, none, none, none, none, none]), (1, 396, []), (1, 6, []), (1, 360, []), (1, 60, []), (1, 5168, []), (1, 5168, []), (1, 48, [])]) 61 [vr gT.length, vd] [vr (gT.length + 7), vr gT.length] m7 _
  refine z_pR 0 dX12_init_61 ff_X12_28 rfl rfl (fun _ => ⟨rfl, rfl⟩) (fun _ _ _ => rfl) (fun _ => trivial) ?_
  show ZZ X (9, 977) 2 mX12_init (gT ++ [(0, 12, [some (gT.length + 1), some (gT.length + 2), some (gT.length + 3), none, none, some (gT.length + 4), none, some (gT.length + 5), some (gT.length + 6), none, none, none, some (gT.length + 7), none, none, none, none, none, none, none, none, none, none, none, none, none, none, none, none, none, none, none, none, none, none, none]), (1, 396, []), (1, 6, []), (1, 360, []), (1, 60, []), (1, 5168, []), (1, 5168, []), (1, 48, [])]) 64 [vr gT.length, vd] [] m7 _
  refine z_aload_n dX12_init_64 rfl ?_
  refine z_bipush dX12_init_65 (by decide) ?_
  refine z_nI 6 (8, 971) dX12_init_67 (by decide) ⟨by decide, by decide⟩ ?_
  refine zz_mem (Pm := fresh (gT.length + 1) mem) (f7.zr (show gT.length + 1 ≤ gT.length + 8 by omega)) (fun m8 f8 => ?_)
  show ZZ X (8, 971) 2 mX12_init (gT ++ [(0, 12, [some (gT.length + 1), some (gT.length + 2), some (gT.length + 3), none, none, some (gT.length + 4), none, some (gT.length + 5), some (gT.length + 6), none, none, none, some (gT.length + 7), none, none, none, none, none, none, none, none, none, none, none, none, none, none, none, none, none, none, none, none, none, none, none]), (1, 396, []), (1, 6, []), (1, 360, []), (1, 60, []), (1, 5168, []), (1, 5168, []), (1, 48, []), (1, 6, [])]) 69 [vr gT.length, vd] [vr (gT.length + 8), vr gT.length] m8 _
  refine z_pR 0 dX12_init_69 ff_X12_31 rfl rfl (fun _ => ⟨rfl, rfl⟩) (fun _ _ _ => rfl) (fun _ => trivial) ?_
  show ZZ X (8, 971) 2 mX12_init (gT ++ [(0, 12, [some (gT.length + 1), some (gT.length + 2), some (gT.length + 3), none, none, some (gT.length + 4), none, some (gT.length + 5), some (gT.length + 6), none, none, none, some (gT.length + 7), none, some (gT.length + 8), none, none, none, none, none, none, none, none, none, none, none, none, none, none, none, none, none, none, none, none, none]), (1, 396, []), (1, 6, []), (1, 360, []), (1, 60, []), (1, 5168, []), (1, 5168, []), (1, 48, []), (1, 6, [])]) 72 [vr gT.length, vd] [] m8 _
  refine z_aload_n dX12_init_72 rfl ?_
  refine z_bipush dX12_init_73 (by decide) ?_
  refine z_nI 6 (7, 965) dX12_init_75 (by decide) ⟨by decide, by decide⟩ ?_
  refine zz_mem (Pm := fresh (gT.length + 1) mem) (f8.zr (show gT.length + 1 ≤ gT.length + 9 by omega)) (fun m9 f9 => ?_)
  show ZZ X (7, 965) 2 mX12_init (gT ++ [(0, 12, [some (gT.length + 1), some (gT.length + 2), some (gT.length + 3), none, none, some (gT.length + 4), none, some (gT.length + 5), some (gT.length + 6), none, none, none, some (gT.length + 7), none, some (gT.length + 8), none, none, none, none, none, none, none, none, none, none, none, none, none, none, none, none, none, none, none, none, none]), (1, 396, []), (1, 6, []), (1, 360, []), (1, 60, []), (1, 5168, []), (1, 5168, []), (1, 48, []), (1, 6, []), (1, 6, [])]) 77 [vr gT.length, vd] [vr (gT.length + 9), vr gT.length] m9 _
  refine z_pR 0 dX12_init_77 ff_X12_34 rfl rfl (fun _ => ⟨rfl, rfl⟩) (fun _ _ _ => rfl) (fun _ => trivial) ?_
  show ZZ X (7, 965) 2 mX12_init (gT ++ [(0, 12, [some (gT.length + 1), some (gT.length + 2), some (gT.length + 3), none, none, some (gT.length + 4), none, some (gT.length + 5), some (gT.length + 6), none, none, none, some (gT.length + 7), none, some (gT.length + 8), none, some (gT.length + 9), none, none, none, none, none, none, none, none, none, none, none, none, none, none, none, none, none, none, none]), (1, 396, []), (1, 6, []), (1, 360, []), (1, 60, []), (1, 5168, []), (1, 5168, []), (1, 48, []), (1, 6, []), (1, 6, [])]) 80 [vr gT.length, vd] [] m9 _
  refine z_aload_n dX12_init_80 rfl ?_
  refine z_bipush dX12_init_81 (by decide) ?_
  refine z_nI 60 (6, 905) dX12_init_83 (by decide) ⟨by decide, by decide⟩ ?_
  refine zz_mem (Pm := fresh (gT.length + 1) mem) (f9.zr (show gT.length + 1 ≤ gT.length + 10 by omega)) (fun m10 f10 => ?_)
  show ZZ X (6, 905) 2 mX12_init (gT ++ [(0, 12, [some (gT.length + 1), some (gT.length + 2), some (gT.length + 3), none, none, some (gT.length + 4), none, some (gT.length + 5), some (gT.length + 6), none, none, none, some (gT.length + 7), none, some (gT.length + 8), none, some (gT.length + 9), none, none, none, none, none, none, none, none, none, none, none, none, none, none, none, none, none, none, none]), (1, 396, []), (1, 6, []), (1, 360, []), (1, 60, []), (1, 5168, []), (1, 5168, []), (1, 48, []), (1, 6, []), (1, 6, []), (1, 60, [])]) 85 [vr gT.length, vd] [vr (gT.length + 10), vr gT.length] m10 _
  refine z_pR 0 dX12_init_85 ff_X12_37 rfl rfl (fun _ => ⟨rfl, rfl⟩) (fun _ _ _ => rfl) (fun _ => trivial) ?_
  show ZZ X (6, 905) 2 mX12_init (gT ++ [(0, 12, [some (gT.length + 1), some (gT.length + 2), some (gT.length + 3), none, none, some (gT.length + 4), none, some (gT.length + 5), some (gT.length + 6), none, none, none, some (gT.length + 7), none, some (gT.length + 8), none, some (gT.length + 9), none, none, none, none, some (gT.length + 10), none, none, none, none, none, none, none, none, none, none, none, none, none, none]), (1, 396, []), (1, 6, []), (1, 360, []), (1, 60, []), (1, 5168, []), (1, 5168, []), (1, 48, []), (1, 6, []), (1, 6, []), (1, 60, [])]) 88 [vr gT.length, vd] [] m10 _
  refine z_aload_n dX12_init_88 rfl ?_
  refine z_sipush dX12_init_89 (by decide) ?_
  refine z_nJ 403 (5, 502) dX12_init_92 (by decide) ⟨by decide, by decide⟩ ?_
  refine zz_mem (Pm := fresh (gT.length + 1) mem) (f10.zr (show gT.length + 1 ≤ gT.length + 11 by omega)) (fun m11 f11 => ?_)
  show ZZ X (5, 502) 2 mX12_init (gT ++ [(0, 12, [some (gT.length + 1), some (gT.length + 2), some (gT.length + 3), none, none, some (gT.length + 4), none, some (gT.length + 5), some (gT.length + 6), none, none, none, some (gT.length + 7), none, some (gT.length + 8), none, some (gT.length + 9), none, none, none, none, some (gT.length + 10), none, none, none, none, none, none, none, none, none, none, none, none, none, none]), (1, 396, []), (1, 6, []), (1, 360, []), (1, 60, []), (1, 5168, []), (1, 5168, []), (1, 48, []), (1, 6, []), (1, 6, []), (1, 60, []), (3, 403, [])]) 94 [vr gT.length, vd] [vr (gT.length + 11), vr gT.length] m11 _
  refine z_pR 0 dX12_init_94 ff_X12_40 rfl rfl (fun _ => ⟨rfl, rfl⟩) (fun _ _ _ => rfl) (fun _ => trivial) ?_
  show ZZ X (5, 502) 2 mX12_init (gT ++ [(0, 12, [some (gT.length + 1), some (gT.length + 2), some (gT.length + 3), none, none, some (gT.length + 4), none, some (gT.length + 5), some (gT.length + 6), none, none, none, some (gT.length + 7), none, some (gT.length + 8), none, some (gT.length + 9), none, none, none, none, some (gT.length + 10), none, none, none, some (gT.length + 11), none, none, none, none, none, none, none, none, none, none]), (1, 396, []), (1, 6, []), (1, 360, []), (1, 60, []), (1, 5168, []), (1, 5168, []), (1, 48, []), (1, 6, []), (1, 6, []), (1, 60, []), (3, 403, [])]) 97 [vr gT.length, vd] [] m11 _
  refine z_aload_n dX12_init_97 rfl ?_
  refine z_sipush dX12_init_98 (by decide) ?_
  refine z_nJ 403 (4, 99) dX12_init_101 (by decide) ⟨by decide, by decide⟩ ?_
  refine zz_mem (Pm := fresh (gT.length + 1) mem) (f11.zr (show gT.length + 1 ≤ gT.length + 12 by omega)) (fun m12 f12 => ?_)
  show ZZ X (4, 99) 2 mX12_init (gT ++ [(0, 12, [some (gT.length + 1), some (gT.length + 2), some (gT.length + 3), none, none, some (gT.length + 4), none, some (gT.length + 5), some (gT.length + 6), none, none, none, some (gT.length + 7), none, some (gT.length + 8), none, some (gT.length + 9), none, none, none, none, some (gT.length + 10), none, none, none, some (gT.length + 11), none, none, none, none, none, none, none, none, none, none]), (1, 396, []), (1, 6, []), (1, 360, []), (1, 60, []), (1, 5168, []), (1, 5168, []), (1, 48, []), (1, 6, []), (1, 6, []), (1, 60, []), (3, 403, []), (3, 403, [])]) 103 [vr gT.length, vd] [vr (gT.length + 12), vr gT.length] m12 _
  refine z_pR 0 dX12_init_103 ff_X12_44 rfl rfl (fun _ => ⟨rfl, rfl⟩) (fun _ _ _ => rfl) (fun _ => trivial) ?_
  show ZZ X (4, 99) 2 mX12_init (gT ++ [(0, 12, [some (gT.length + 1), some (gT.length + 2), some (gT.length + 3), none, none, some (gT.length + 4), none, some (gT.length + 5), some (gT.length + 6), none, none, none, some (gT.length + 7), none, some (gT.length + 8), none, some (gT.length + 9), none, none, none, none, some (gT.length + 10), none, none, none, some (gT.length + 11), some (gT.length + 12), none, none, none, none, none, none, none, none, none]), (1, 396, []), (1, 6, []), (1, 360, []), (1, 60, []), (1, 5168, []), (1, 5168, []), (1, 48, []), (1, 6, []), (1, 6, []), (1, 60, []), (3, 403, []), (3, 403, [])]) 106 [vr gT.length, vd] [] m12 _
  refine z_aload_n dX12_init_106 rfl ?_
  refine z_bipush dX12_init_107 (by decide) ?_
  refine z_nJ 13 (3, 86) dX12_init_109 (by decide) ⟨by decide, by decide⟩ ?_
  refine zz_mem (Pm := fresh (gT.length + 1) mem) (f12.zr (show gT.length + 1 ≤ gT.length + 13 by omega)) (fun m13 f13 => ?_)
  show ZZ X (3, 86) 2 mX12_init (gT ++ [(0, 12, [some (gT.length + 1), some (gT.length + 2), some (gT.length + 3), none, none, some (gT.length + 4), none, some (gT.length + 5), some (gT.length + 6), none, none, none, some (gT.length + 7), none, some (gT.length + 8), none, some (gT.length + 9), none, none, none, none, some (gT.length + 10), none, none, none, some (gT.length + 11), some (gT.length + 12), none, none, none, none, none, none, none, none, none]), (1, 396, []), (1, 6, []), (1, 360, []), (1, 60, []), (1, 5168, []), (1, 5168, []), (1, 48, []), (1, 6, []), (1, 6, []), (1, 60, []), (3, 403, []), (3, 403, []), (3, 13, [])]) 111 [vr gT.length, vd] [vr (gT.length + 13), vr gT.length] m13 _
  refine z_pR 0 dX12_init_111 ff_X12_47 rfl rfl (fun _ => ⟨rfl, rfl⟩) (fun _ _ _ => rfl) (fun _ => trivial) ?_
  show ZZ X (3, 86) 2 mX12_init (gT ++ [(0, 12, [some (gT.length + 1), some (gT.length + 2), some (gT.length + 3), none, none, some (gT.length + 4), none, some (gT.length + 5), some (gT.length + 6), none, none, none, some (gT.length + 7), none, some (gT.length + 8), none, some (gT.length + 9), none, none, none, none, some (gT.length + 10), none, none, none, some (gT.length + 11), some (gT.length + 12), some (gT.length + 13), none, none, none, none, none, none, none, none]), (1, 396, []), (1, 6, []), (1, 360, []), (1, 60, []), (1, 5168, []), (1, 5168, []), (1, 48, []), (1, 6, []), (1, 6, []), (1, 60, []), (3, 403, []), (3, 403, []), (3, 13, [])]) 114 [vr gT.length, vd] [] m13 _
  refine z_aload_n dX12_init_114 rfl ?_
  refine z_bipush dX12_init_115 (by decide) ?_
  refine z_nI 60 (2, 26) dX12_init_117 (by decide) ⟨by decide, by decide⟩ ?_
  refine zz_mem (Pm := fresh (gT.length + 1) mem) (f13.zr (show gT.length + 1 ≤ gT.length + 14 by omega)) (fun m14 f14 => ?_)
  show ZZ X (2, 26) 2 mX12_init (gT ++ [(0, 12, [some (gT.length + 1), some (gT.length + 2), some (gT.length + 3), none, none, some (gT.length + 4), none, some (gT.length + 5), some (gT.length + 6), none, none, none, some (gT.length + 7), none, some (gT.length + 8), none, some (gT.length + 9), none, none, none, none, some (gT.length + 10), none, none, none, some (gT.length + 11), some (gT.length + 12), some (gT.length + 13), none, none, none, none, none, none, none, none]), (1, 396, []), (1, 6, []), (1, 360, []), (1, 60, []), (1, 5168, []), (1, 5168, []), (1, 48, []), (1, 6, []), (1, 6, []), (1, 60, []), (3, 403, []), (3, 403, []), (3, 13, []), (1, 60, [])]) 119 [vr gT.length, vd] [vr (gT.length + 14), vr gT.length] m14 _
  refine z_pR 0 dX12_init_119 ff_X12_50 rfl rfl (fun _ => ⟨rfl, rfl⟩) (fun _ _ _ => rfl) (fun _ => trivial) ?_
  show ZZ X (2, 26) 2 mX12_init (gT ++ [(0, 12, [some (gT.length + 1), some (gT.length + 2), some (gT.length + 3), none, none, some (gT.length + 4), none, some (gT.length + 5), some (gT.length + 6), none, none, none, some (gT.length + 7), none, some (gT.length + 8), none, some (gT.length + 9), none, none, none, none, some (gT.length + 10), none, none, none, some (gT.length + 11), some (gT.length + 12), some (gT.length + 13), some (gT.length + 14), none, none, none, none, none, none, none]), (1, 396, []), (1, 6, []), (1, 360, []), (1, 60, []), (1, 5168, []), (1, 5168, []), (1, 48, []), (1, 6, []), (1, 6, []), (1, 60, []), (3, 403, []), (3, 403, []), (3, 13, []), (1, 60, [])]) 122 [vr gT.length, vd] [] m14 _
  refine z_aload_n dX12_init_122 rfl ?_
  refine z_bipush dX12_init_123 (by decide) ?_
  refine z_nI 8 (1, 18) dX12_init_125 (by decide) ⟨by decide, by decide⟩ ?_
  refine zz_mem (Pm := fresh (gT.length + 1) mem) (f14.zr (show gT.length + 1 ≤ gT.length + 15 by omega)) (fun m15 f15 => ?_)
  show ZZ X (1, 18) 2 mX12_init (gT ++ [(0, 12, [some (gT.length + 1), some (gT.length + 2), some (gT.length + 3), none, none, some (gT.length + 4), none, some (gT.length + 5), some (gT.length + 6), none, none, none, some (gT.length + 7), none, some (gT.length + 8), none, some (gT.length + 9), none, none, none, none, some (gT.length + 10), none, none, none, some (gT.length + 11), some (gT.length + 12), some (gT.length + 13), some (gT.length + 14), none, none, none, none, none, none, none]), (1, 396, []), (1, 6, []), (1, 360, []), (1, 60, []), (1, 5168, []), (1, 5168, []), (1, 48, []), (1, 6, []), (1, 6, []), (1, 60, []), (3, 403, []), (3, 403, []), (3, 13, []), (1, 60, []), (1, 8, [])]) 127 [vr gT.length, vd] [vr (gT.length + 15), vr gT.length] m15 _
  refine z_pR 0 dX12_init_127 ff_X12_53 rfl rfl (fun _ => ⟨rfl, rfl⟩) (fun _ _ _ => rfl) (fun _ => trivial) ?_
  show ZZ X (1, 18) 2 mX12_init (gT ++ [(0, 12, [some (gT.length + 1), some (gT.length + 2), some (gT.length + 3), none, none, some (gT.length + 4), none, some (gT.length + 5), some (gT.length + 6), none, none, none, some (gT.length + 7), none, some (gT.length + 8), none, some (gT.length + 9), none, none, none, none, some (gT.length + 10), none, none, none, some (gT.length + 11), some (gT.length + 12), some (gT.length + 13), some (gT.length + 14), none, some (gT.length + 15), none, none, none, none, none]), (1, 396, []), (1, 6, []), (1, 360, []), (1, 60, []), (1, 5168, []), (1, 5168, []), (1, 48, []), (1, 6, []), (1, 6, []), (1, 60, []), (3, 403, []), (3, 403, []), (3, 13, []), (1, 60, []), (1, 8, [])]) 130 [vr gT.length, vd] [] m15 _
  refine z_aload_n dX12_init_130 rfl ?_
  refine z_bipush dX12_init_131 (by decide) ?_
  refine z_nI 18 (0, 0) dX12_init_133 (by decide) ⟨by decide, by decide⟩ ?_
  refine zz_mem (Pm := fresh (gT.length + 1) mem) (f15.zr (show gT.length + 1 ≤ gT.length + 16 by omega)) (fun m16 f16 => ?_)
  show ZZ X (0, 0) 2 mX12_init (gT ++ [(0, 12, [some (gT.length + 1), some (gT.length + 2), some (gT.length + 3), none, none, some (gT.length + 4), none, some (gT.length + 5), some (gT.length + 6), none, none, none, some (gT.length + 7), none, some (gT.length + 8), none, some (gT.length + 9), none, none, none, none, some (gT.length + 10), none, none, none, some (gT.length + 11), some (gT.length + 12), some (gT.length + 13), some (gT.length + 14), none, some (gT.length + 15), none, none, none, none, none]), (1, 396, []), (1, 6, []), (1, 360, []), (1, 60, []), (1, 5168, []), (1, 5168, []), (1, 48, []), (1, 6, []), (1, 6, []), (1, 60, []), (3, 403, []), (3, 403, []), (3, 13, []), (1, 60, []), (1, 8, []), (1, 18, [])]) 135 [vr gT.length, vd] [vr (gT.length + 16), vr gT.length] m16 _
  refine z_pR 0 dX12_init_135 ff_X12_56 rfl rfl (fun _ => ⟨rfl, rfl⟩) (fun _ _ _ => rfl) (fun _ => trivial) ?_
  show ZZ X (0, 0) 2 mX12_init (gT ++ [(0, 12, [some (gT.length + 1), some (gT.length + 2), some (gT.length + 3), none, none, some (gT.length + 4), none, some (gT.length + 5), some (gT.length + 6), none, none, none, some (gT.length + 7), none, some (gT.length + 8), none, some (gT.length + 9), none, none, none, none, some (gT.length + 10), none, none, none, some (gT.length + 11), some (gT.length + 12), some (gT.length + 13), some (gT.length + 14), none, some (gT.length + 15), some (gT.length + 16), none, none, none, none]), (1, 396, []), (1, 6, []), (1, 360, []), (1, 60, []), (1, 5168, []), (1, 5168, []), (1, 48, []), (1, 6, []), (1, 6, []), (1, 60, []), (3, 403, []), (3, 403, []), (3, 13, []), (1, 60, []), (1, 8, []), (1, 18, [])]) 138 [vr gT.length, vd] [] m16 _
  refine ZZ.asG (G' := GR) (by decide +kernel) ?_
  refine zz_mem (Pm := fresh 88 mem) f16 (fun m0 f0 => ?_)
  show ZZ X (0, 0) 2 mX12_init GR 138 [vr 87, vd] [] m0 _
  refine z_perm (N := 104) (G' := G0) (L' := [vr 88, vd]) (S' := []) (Q' := pC G0 fun m => mTold m ∧ ∀ x, x < 88 → x ≠ 32 → m x = mem (pR x)) pR pQ pRQ pQR pRQ_far (Nat.le_of_eq GR_len.symm) pm_GR rfl rfl (fun G v m h => ?_) ?_
  · obtain ⟨rfl, rfl, h1, h2⟩ := h
    refine ⟨rfl, pm_G0, ?_, fun x hx hx2 => ?_⟩
    · simp only [pQR]
      exact h1
    · simp only [pQR]
      exact h2 x hx hx2
  · refine x12_tail (mem := fun a => mem (pR a)) ⟨fun x hx hx2 => ?_, fun x hx => ?_⟩ h87
    · show m0 (pR x) = mem (pR x)
      exact f0.1 _ (pR_b hx hx2)
    · show m0 (pR x) = fun _ => 0
      exact f0.2 _ (pR_h hx)
end Ctor2
