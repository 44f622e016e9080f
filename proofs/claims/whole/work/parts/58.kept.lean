/-! ===== keeps, by number ===== -/
section Kept
variable {X : Nat × (Int → Int)} {mem : Mem}
theorem reg34 {r v : Nat} (h : regAt mem r v) (hlt : (v : Int) < zB ^ 34) : dig (rowM mem r) 34 ∧ nv (rowM mem r) 34 = (v : Int) := by
  obtain ⟨hd, hv, n, hn, hw, hz, ht⟩ := h
  have hvn : nv (rowM mem r) n = (v : Int) := (nv_pad hn hz).symm.trans hv
  have hn34 : n ≤ 34 := nv_top (fun j hj => hd j (by omega)) ht (by rw [hvn]; exact hlt)
  refine ⟨fun j hj => hd j (by omega), ?_⟩
  rw [nv_pad hn34 (fun j a b => hz j a (by omega)), hvn]
def onK (c n : Nat) (mem m : Mem) : Prop := (∀ j : Int, j < 34 * (n : Int) ∨ 34 * (n : Int) + 34 ≤ j → m c j = mem c j) ∧ ∀ x, x ≠ c → m x = mem x
theorem keptAt.of {c n r v : Nat} (hv : regAt mem r v) (hlt : (v : Int) < zB ^ 34) {m : Mem} (h1 : ∀ k : Nat, k < 34 → m c (34 * (n : Int) + (k : Int)) = mem 89 (66 * (r : Int) + (k : Int))) : keptAt m c n v := by
  obtain ⟨e1, e2⟩ := reg34 hv hlt
  refine ⟨fun j hj => ?_, ?_⟩
  · show 0 ≤ m c (34 * (n : Int) + (j : Int)) ∧ m c (34 * (n : Int) + (j : Int)) < 1073741824
    rw [h1 j hj]
    exact e1 j hj
  · rw [← e2]
    exact nv_congr fun j hj => h1 j hj
theorem keptAt.off {c n n' v : Nat} {m : Mem} (h : keptAt mem c n v) (hon : onK c n' mem m) (hne : n ≠ n') : keptAt m c n v := by
  obtain ⟨h1, h2⟩ := h
  have e : ∀ j : Nat, j < 34 → m c (34 * (n : Int) + (j : Int)) = mem c (34 * (n : Int) + (j : Int)) := fun j hj => hon.1 _ (by omega)
  refine ⟨fun j hj => ?_, ?_⟩
  · show 0 ≤ m c (34 * (n : Int) + (j : Int)) ∧ m c (34 * (n : Int) + (j : Int)) < 1073741824
    rw [e j hj]
    exact h1 j hj
  · rw [← h2]
    exact nv_congr fun j hj => e j hj
end Kept
