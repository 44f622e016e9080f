/-! ===== what ties the class and the reference ===== -/
section Inv
variable {m m1 m2 : Mem} {nf np nw mo a b : Nat} {fd pr fr bk wd : Nat → Nat → Int}
theorem prC.same (h : prC m np pr) (e : ∀ x, 68 ≤ x → x ≤ 71 → m1 x = m x) : prC m1 np pr := ⟨h.1, by rw [e 68 (by decide) (by decide)]; exact h.2.1, fun k i hk hi => by rw [e (69 + k) (by omega) (by omega)]; exact h.2.2 k i hk hi⟩
theorem wdC.same (h : wdC m nw wd) (e : ∀ x, 22 ≤ x → x ≤ 26 → m1 x = m x) : wdC m1 nw wd := ⟨h.1, by rw [e 22 (by decide) (by decide)]; exact h.2.1, fun k i hk hi => by rw [e (23 + k) (by omega) (by omega)]; exact h.2.2 k i hk hi⟩
theorem frC.same (h : frC m fr) (e : ∀ x, 73 ≤ x → x ≤ 74 → m1 x = m x) : frC m1 fr := fun k i hk hi => by rw [e (73 + k) (by omega) (by omega)]; exact h k i hk hi
theorem bkC.same (h : bkC m bk) (e : ∀ x, 76 ≤ x → x ≤ 78 → m1 x = m x) : bkC m1 bk := fun k i hk hi => by rw [e (76 + k) (by omega) (by omega)]; exact h k i hk hi
theorem prM.same (h : prM m np pr) (e1 : m1 88 29 = m 88 29) (e2 : m1 102 = m 102) : prM m1 np pr := ⟨h.1, e1.trans h.2.1, fun k i hk hi => by rw [e2]; exact h.2.2 k i hk hi⟩
theorem wdM.same (h : wdM m nw wd) (e1 : m1 88 13 = m 88 13) (e2 : m1 95 = m 95) : wdM m1 nw wd := ⟨h.1, e1.trans h.2.1, fun k i hk hi => by rw [e2]; exact h.2.2 k i hk hi⟩
theorem frM.same (h : frM m fr) (e : m1 103 = m 103) : frM m1 fr := fun k i hk hi => by rw [e]; exact h k i hk hi
theorem bkM.same (h : bkM m bk) (e : m1 32 = m 32) : bkM m1 bk := fun k i hk hi => by rw [e]; exact h k i hk hi
def cS (m : Mem) (nf : Nat) (fd : Nat → Nat → Int) (np : Nat) (pr : Nat → Nat → Int) (nw : Nat) (wd fr bk : Nat → Nat → Int) (mo a b : Nat) : Prop := zsC m nf fd np pr nw wd fr bk (mo : Int) a b ∧ wcI m nw wd ∧ ways0 m
def rgI (nf : Nat) (fd : Nat → Nat → Int) (np : Nat) (pr : Nat → Nat → Int) (nw : Nat) (wd fr bk : Nat → Nat → Int) (mo : Nat) : Prop := finR nf fd ∧ prR np pr ∧ frR fr ∧ bkR bk ∧ wdR nw wd ∧ 1 ≤ mo ∧ mo ≤ 150
def lwI (m : Mem) : Prop := ∃ (nf : Nat) (fd : Nat → Nat → Int) (np : Nat) (pr : Nat → Nat → Int) (nw : Nat) (wd fr bk : Nat → Nat → Int) (mo a b : Nat), cS m nf fd np pr nw wd fr bk mo a b ∧ zsM m nf fd np pr nw wd fr bk (mo : Int) a b ∧ rgI nf fd np pr nw wd fr bk mo
theorem wcI.same (h : wcI m nw wd) (e22 : m1 22 = m 22) (e27 : m1 27 = m 27) : wcI m1 nw wd := by
  unfold wcI
  rw [e22, e27]
  exact h
theorem ways0.same (h : ways0 m) (e : m1 36 = m 36) : ways0 m1 := by
  unfold ways0
  rw [e]
  exact h
theorem cS.keep (h : cS m nf fd np pr nw wd fr bk mo a b) (e : ∀ x, x ≤ 7 ∨ (17 ≤ x ∧ x ≤ 29) ∨ (35 ≤ x ∧ x ≤ 83) → m1 x = m x) : cS m1 nf fd np pr nw wd fr bk mo a b :=
  ⟨h.1.all fun x hx => e x (by omega), h.2.1.same (e 22 (by omega)) (e 27 (by omega)), h.2.2.same (e 36 (by omega))⟩
theorem cS.newF {a' b' : Nat} (h : cS m nf fd np pr nw wd fr bk mo a b) (e : ∀ x, x ≤ 7 ∨ (22 ≤ x ∧ x ≤ 29) ∨ (69 ≤ x ∧ x ≤ 78) → m1 x = m x) (h68 : m1 68 3 = m 68 3) (hw : ways0 m1) (hf : fracAt m1 79 a' b') : cS m1 nf fd np pr nw wd fr bk mo a' b' :=
  ⟨h.1.off (fun x hx => e x (by omega)) (by rw [e 22 (by omega)]) h68 hf, h.2.1.same (e 22 (by omega)) (e 27 (by omega)), hw⟩
theorem cS.lo (h : cS m1 nf fd np pr nw wd fr bk mo a b) (e : ∀ x, x < 88 ∧ x ≠ 32 → m2 x = m1 x) : cS m2 nf fd np pr nw wd fr bk mo a b := h.keep fun x hx => e x (by omega)
theorem zsM.hi (h : zsM m nf fd np pr nw wd fr bk (mo : Int) a b) (e : ∀ x, (88 ≤ x ∧ x < 105) ∨ x = 32 → m1 x = m x) : zsM m1 nf fd np pr nw wd fr bk (mo : Int) a b := h.all (fun x hx => e x (by omega)) (fun j _ => by rw [e 88 (Or.inl (by decide))])
theorem zsM.kf (h : zsM m nf fd np pr nw wd fr bk (mo : Int) a b) (hk : ∀ x, x = 91 ∨ x = 95 ∨ x = 102 ∨ x = 103 ∨ x = 32 → m1 x = m x) (h88 : ∀ j, j = 3 ∨ j = 4 ∨ j = 13 ∨ j = 29 → m1 88 j = m 88 j) (hf : keepF m m1) : zsM m1 nf fd np pr nw wd fr bk (mo : Int) a b := h.off hk h88 (hf 0 a (by decide) h.2.2.2.2.2.2.1) (hf 1 b (by decide) h.2.2.2.2.2.2.2)
theorem tri3 {A B C P Q R : Prop} (hBC : B ∨ C) (q : (¬ A → P) ∧ (A → B → Q) ∧ (A → C → R)) : (¬ A ∧ P) ∨ (A ∧ B ∧ Q) ∨ (A ∧ C ∧ R) := by
  by_cases h : A
  · rcases hBC with w | w
    · exact Or.inr (Or.inl ⟨h, w, q.2.1 h w⟩)
    · exact Or.inr (Or.inr ⟨h, w, q.2.2 h w⟩)
  · exact Or.inl ⟨h, q.1 h⟩
theorem sq3 {A B P Q R : Prop} (q : (¬ A → P) ∧ (A → ¬ B → Q) ∧ (A → B → R)) : (¬ A ∧ P) ∨ (A ∧ ¬ B ∧ Q) ∨ (A ∧ B ∧ R) := by
  by_cases h : A
  · by_cases w : B
    · exact Or.inr (Or.inr ⟨h, w, q.2.2 h w⟩)
    · exact Or.inr (Or.inl ⟨h, w, q.2.1 h w⟩)
  · exact Or.inl ⟨h, q.1 h⟩
theorem two2 {A P Q : Prop} (q : (¬ A → P) ∧ (A → Q)) : (¬ A ∧ P) ∨ (A ∧ Q) := by
  by_cases h : A
  · exact Or.inr ⟨h, q.2 h⟩
  · exact Or.inl ⟨h, q.1 h⟩
theorem an_uniq {L : List Int} {f s v z z' : Int} {ok : Prop} (h : anPost L f s mo v ok z) (h' : anPost L f s mo v ok z') : z = z' := by
  by_cases h1 : ok
  · by_cases h2 : wgP L f s mo
    · rw [h.2.2 h1 h2, h'.2.2 h1 h2]
    · rw [h.2.1 h1 h2, h'.2.1 h1 h2]
  · rw [h.1 h1, h'.1 h1]
theorem fa_uniq {f s i z z' : Int} (h : faPost nf fd f s mo i z) (h' : faPost nf fd f s mo i z') : z = z' := by
  by_cases h1 : (0 ≤ i ∧ i < (nf : Int)) ∧ 0 ≤ f ∧ f ≤ 9999 ∧ 1 ≤ s ∧ s ≤ 99
  · by_cases h2 : fd 5 i.toNat = 0 ∧ fitP (gatL fd (fd 0 i.toNat) (-1) nf) f s ∧ wgP (gatL fd (fd 0 i.toNat) i nf) f s mo
    · rw [(h.2 h1).2 h2, (h'.2 h1).2 h2]
    · rw [(h.2 h1).1 h2, (h'.2 h1).1 h2]
  · rw [h.1 h1, h'.1 h1]
theorem two_uniq {A : Prop} {z z' u v : Int} (h : (¬ A → z = u) ∧ (A → z = v)) (h' : (¬ A → z' = u) ∧ (A → z' = v)) : z = z' := by
  by_cases q : A
  · rw [h.2 q, h'.2 q]
  · rw [h.1 q, h'.1 q]
theorem my_uniq {l z z' : Int} (h : myA nw wd l z) (h' : myA nw wd l z') : z = z' := by
  by_cases q : 0 ≤ l ∧ l ≤ 5
  · exact (h.2 q).uniq (h'.2 q)
  · rw [h.1 q, h'.1 q]
theorem rs_uniq {l c wh z z' : Int} (h : rsA nw wd l c wh z) (h' : rsA nw wd l c wh z') : z = z' := by
  by_cases q : okRow l c ∧ 0 ≤ wh ∧ wh ≤ 1
  · exact (h.2 q).uniq (h'.2 q)
  · rw [h.1 q, h'.1 q]
theorem db_uniq {i b z z' : Int} (h : dbA nf fd i b z) (h' : dbA nf fd i b z') : z = z' := by
  by_cases q : 0 ≤ i ∧ i < (nf : Int)
  · by_cases w : fd 5 i.toNat = b
    · rw [h.2.1 q w, h'.2.1 q w]
    · rw [h.2.2 q w, h'.2.2 q w]
  · rw [h.1 q, h'.1 q]
theorem finR_put {mk nb wk md fv : Int} (h : finR nf fd) (ok : okFind mk nb wk md fv) : finR (nf + 1) (fdU fd nf (v5 mk nb wk md fv)) := by
  intro i hi
  have e : ∀ k, fdU fd nf (v5 mk nb wk md fv) k i = if i = nf then v5 mk nb wk md fv k else fd k i := fun _ => rfl
  by_cases q : i = nf
  · simp only [e, if_pos q]
    exact ⟨ok.1, ok.2.1, ok.2.2.1, ok.2.2.2.1, ok.2.2.2.2, Or.inl rfl⟩
  · simp only [e, if_neg q]
    exact h i (by omega)
theorem finR_db {i b : Int} (h : finR nf fd) (hb : b = 0 ∨ b = 1) : finR nf (dbF nf fd i b) := by
  intro j hj
  obtain ⟨q0, q1, q2, q3, q4, q5⟩ := h j hj
  unfold dbF
  by_cases w : 0 ≤ i ∧ i < (nf : Int)
  · rw [if_pos w]
    unfold fdD
    refine ⟨?_, ?_, ?_, ?_, ?_, ?_⟩
    · rw [if_neg (fun t => absurd t.1 (by decide))]; exact q0
    · rw [if_neg (fun t => absurd t.1 (by decide))]; exact q1
    · rw [if_neg (fun t => absurd t.1 (by decide))]; exact q2
    · rw [if_neg (fun t => absurd t.1 (by decide))]; exact q3
    · rw [if_neg (fun t => absurd t.1 (by decide))]; exact q4
    · by_cases t : j = i.toNat
      · rw [if_pos ⟨rfl, t⟩]; exact hb
      · rw [if_neg (fun s => t s.2)]; exact q5
  · rw [if_neg w]
    exact h j hj
theorem prR_put {x y z : Int} (h : prR np pr) (ok : okSaid x y z) : prR (np + 1) (fdU pr np (v3 x y z)) := by
  intro i hi
  have e : ∀ k, fdU pr np (v3 x y z) k i = if i = np then v3 x y z k else pr k i := fun _ => rfl
  by_cases q : i = np
  · simp only [e, if_pos q]
    exact ok
  · simp only [e, if_neg q]
    exact h i (by omega)
theorem frR_put {f x y : Int} (h : frR fr) (ok : okFront f x y) : frR (fdU fr f.toNat (v3 x y 0)) := by
  intro i hi
  have e : ∀ k, fdU fr f.toNat (v3 x y 0) k i = if i = f.toNat then v3 x y 0 k else fr k i := fun _ => rfl
  by_cases q : i = f.toNat
  · simp only [e, if_pos q]
    exact ok.2
  · simp only [e, if_neg q]
    exact h i hi
theorem bkR_put {mk n f s : Int} (h : bkR bk) (ok : okBook mk n f s) : bkR (fdU bk mk.toNat (v3 n f s)) := by
  intro i hi
  have e : ∀ k, fdU bk mk.toNat (v3 n f s) k i = if i = mk.toNat then v3 n f s k else bk k i := fun _ => rfl
  by_cases q : i = mk.toNat
  · simp only [e, if_pos q]
    rcases ok.2 with w | w
    · exact Or.inl w
    · exact Or.inr ⟨w, ⟨ok.1.2.2.1, ok.1.2.2.2.1⟩, ok.1.2.2.2.2⟩
  · simp only [e, if_neg q]
    exact h i hi
theorem wdR_put {l c lo hi : Int} (h : wdR nw wd) (ok : okWord l c lo hi) : wdR (nw + 1) (fdU wd nw (v4 l c lo hi)) := by
  intro i hi'
  have e : ∀ k, fdU wd nw (v4 l c lo hi) k i = if i = nw then v4 l c lo hi k else wd k i := fun _ => rfl
  by_cases q : i = nw
  · simp only [e, if_pos q]
    exact ok
  · simp only [e, if_neg q]
    exact h i (by omega)
/-- both are made: the tie holds -/
theorem lw_start (hc : cTold m) (hm : mTold m) : lwI m := by
  obtain ⟨c1, c2, c3, c4, c5⟩ := hc
  obtain ⟨⟨d1, d2, d3, d4⟩, d5, d6, d7, d8⟩ := hm
  have z : ∀ x, (1 ≤ x ∧ x < 88 ∧ x ≠ 32 ∧ x ≠ 73 ∧ x ≠ 74 ∧ x ≠ 76 ∧ x ≠ 82 ∧ x ≠ 83) → ∀ j, m x j = 0 := fun x h j => by rw [c2 x h.1 h.2.1 h.2.2.1 h.2.2.2.1 h.2.2.2.2.1 h.2.2.2.2.2.1 h.2.2.2.2.2.2.1 h.2.2.2.2.2.2.2]
  refine ⟨0, fun _ _ => 0, 0, fun _ _ => 0, 0, fun _ _ => 0, fun _ _ => 1, fun k _ => if k = 0 then -1 else 0, 150, 0, 1, ⟨⟨⟨by decide, z 1 (by decide) 6, fun k i _ hi => absurd hi (Nat.not_lt_zero i), fun i _ _ => z 7 (by decide) _⟩, ⟨by decide, z 68 (by decide) 3, fun k i _ hi => absurd hi (Nat.not_lt_zero i)⟩, ⟨by decide, z 22 (by decide) 4, fun k i _ hi => absurd hi (Nat.not_lt_zero i)⟩, fun k f hk hf => ?_, fun k i hk hi => ?_, c1, ?_, c5⟩, Or.inl (z 22 (by decide) 5), fun n _ _ => z 36 (by decide) _⟩, ⟨⟨by decide, d1, fun k i _ hi => absurd hi (Nat.not_lt_zero i)⟩, ⟨by decide, d4, fun k i _ hi => absurd hi (Nat.not_lt_zero i)⟩, ⟨by decide, d3, fun k i _ hi => absurd hi (Nat.not_lt_zero i)⟩, d5, fun k i hk hi => ?_, d2, d7, d8⟩, ⟨fun i hi => absurd hi (Nat.not_lt_zero i), fun i hi => absurd hi (Nat.not_lt_zero i), fun f _ => by show (1 : Int) ≤ 1 ∧ (1 : Int) ≤ 1 ∧ (1 : Int) ≤ 1000; decide, fun i _ => Or.inl rfl, fun i hi => absurd hi (Nat.not_lt_zero i), by decide, by decide⟩⟩
  · obtain rfl | rfl : k = 0 ∨ k = 1 := by omega
    · exact (c3 f hf).1
    · exact (c3 f hf).2
  · obtain rfl | rfl | rfl : k = 0 ∨ k = 1 ∨ k = 2 := by omega
    · exact c4 i hi
    · exact z 77 (by decide) _
    · exact z 78 (by decide) _
  · exact ⟨0, z 80 (by decide) 1, by decide, fun i hi => absurd hi (Nat.not_lt_zero i), rfl, Or.inl rfl⟩
  · obtain ⟨e1, e2, e3⟩ := d6 i hi
    obtain rfl | rfl | rfl : k = 0 ∨ k = 1 ∨ k = 2 := by omega
    · rw [show 3 * (i : Int) + ((0 : Nat) : Int) = 3 * (i : Int) by omega]; exact e1
    · exact e2
    · exact e3
end Inv
