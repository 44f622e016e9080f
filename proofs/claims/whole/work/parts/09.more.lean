theorem st_max : Cond.static yJ9_max_7cf53 ∈ wsG := (inG (inT (inT2 194 (by decide +kernel))) (by decide +kernel))
theorem st_copy : Cond.static arraycopyName ∈ wsG := (inG (inT (inT2 238 (by decide +kernel))) (by decide +kernel))
theorem st_min : Cond.static yJ9_min_7cf53 ∈ wsG := (inG (inT (inT3 15 (by decide +kernel))) (by decide +kernel))
theorem st_abs : Cond.static yJ9_abs_0f7a4 ∈ wsG := (inG (inT (inT4 64 (by decide +kernel))) (by decide +kernel))
theorem nat_copy : Cond.native arraycopyName ∈ wsG := (inG (inT (inT2 239 (by decide +kernel))) (by decide +kernel))
theorem in_system : Cond.initialized "java/lang/System" ∈ wsG := (inG (inT (inT1 16 (by decide +kernel))) (by decide +kernel))
theorem lm_X9_29 : Cond.methodLink RX9 29 yJ9_max_7cf53 ∈ wsG := (inG (inT (inT2 193 (by decide +kernel))) (by decide +kernel))
theorem lm_X8_32 : Cond.methodLink RX8 32 yJ9_max_7cf53 ∈ wsG := (inG (inT (inT2 211 (by decide +kernel))) (by decide +kernel))
theorem lc_X8_26 : Cond.methodLink RX8 26 arraycopyName ∈ wsG := (inG (inT (inT2 237 (by decide +kernel))) (by decide +kernel))
theorem lm_X4_61 : Cond.methodLink RX4 61 yJ9_min_7cf53 ∈ wsG := (inG (inT (inT3 14 (by decide +kernel))) (by decide +kernel))
theorem lm_X7_21 : Cond.methodLink RX7 21 yJ9_max_7cf53 ∈ wsG := (inG (inT (inT3 99 (by decide +kernel))) (by decide +kernel))
theorem lm_X2_91 : Cond.methodLink RX2 91 yJ9_max_7cf53 ∈ wsG := (inG (inT (inT4 41 (by decide +kernel))) (by decide +kernel))
theorem lm_X0_38 : Cond.methodLink RX0 38 yJ9_abs_0f7a4 ∈ wsG := (inG (inT (inT4 63 (by decide +kernel))) (by decide +kernel))
section RulesC
variable {X : Nat × (Int → Int)} {b : Nat × Nat} {d : Nat} {mi : MI} {G : List GC} {pc : Nat} {L S : List VV} {mem : Mem} {Q : zPost}
theorem z_ldcw {i : Nat} {v : Int32} {z : Int} (hd : decode mi.2.1 pc = .ok (.ldc_w i, 3)) (hw : Cond.constant mi.1.cls i v ∈ wsG) (hz : v.toInt = z) (k : ZZ X b d mi G (pc + 3) L (vi z :: S) mem Q) : ZZ X b d mi G pc L S mem Q := by
  intro p l e R s m args below meth c D K ρ A n0 σ0 σ H locs cells slots mc ms ls hK hS hL hl
  subst hz
  have h : W p l e R s m args below meth c H locs cells slots (MQ below (zQ D K ρ n0 σ0 A Q) args s mc ms A) (F0 m (pc + 3) ls (.int (Int32.ofInt v.toInt) :: S.map (rv σ ρ))) := k p l e R s m args below meth c D K ρ A n0 σ0 σ H locs cells slots mc ms ls hK (so_cons (oi32 v) hS) hL hl
  rw [oi_t] at h
  exact lv_ldcw hK.1.1.1 hK.1.1.2.1 hK.1.1.2.2.2.1 (hK.1.1.2.2.2.2 _ hw) hd h

theorem nm_max : yJ9_max_7cf53 = Lib.Math.max.name := rfl
theorem nc_max : cJ9_max_7cf53 = Lib.Math.max.code := by decide +kernel
theorem z_max {idx : Nat} {x y : Int} (hd : decode mi.2.1 pc = .ok (.invokestatic idx, 3)) (hlk : Cond.methodLink mi.1.cls idx yJ9_max_7cf53 ∈ wsG) (hd1 : 1 ≤ d) (hcat : (S.map vcat).sum ≤ 8) (k : ZZ X b d mi G (pc + 3) L (vi (if x < y then y else x) :: S) mem Q) : ZZ X b d mi G pc L (vi y :: vi x :: S) mem Q := by
  intro p l e R s m args below meth c D K ρ A n0 σ0 σ H locs cells slots mc ms ls hK hS hL hl
  have hx : i32 x := so_hd (so_tl hS)
  have hy : i32 y := so_hd hS
  have h : W p l e R s m args below meth c H locs cells slots (MQ below (zQ D K ρ n0 σ0 A Q) args s mc ms A) (F0 m (pc + 3) ls (.int (Int32.ofInt (if x < y then y else x)) :: S.map (rv σ ρ))) := k p l e R s m args below meth c D K ρ A n0 σ0 σ H locs cells slots mc ms ls hK (so_cons (show i32 _ by split <;> assumption) (so_tl (so_tl hS))) hL hl
  have hts := hK.1.1.2.2.2.2
  have hok := ok_J9_max_7cf53
  have hrm := hK.2.1
  have hbud := hK.2.2.1
  have hlk2 : Cond.methodLink mi.1.cls idx Lib.Math.max.name ∈ wsG := hlk
  have hst2 : Cond.static Lib.Math.max.name ∈ wsG := st_max
  have hcd : Cond.code Lib.Math.max.name Lib.Math.max.code 2 (some .int) ∈ wsG := by rw [← nc_max]; exact hok.1
  show W p l e R s m args below meth c H locs cells slots (MQ below (zQ D K ρ n0 σ0 A Q) args s mc ms A) (F0 m (pc) ls (.int (Int32.ofInt y) :: .int (Int32.ofInt x) :: S.map (rv σ ρ)))
  refine va_mmax hK.1.1.1 hK.1.1.2.1 (hK.1.1.2.2.1.trans hl.1.symm) hK.1.1.2.2.2.1 (hts _ hlk2) (hts _ hst2) (hts _ hok.2.1) (hts _ hcd) (by omega) (by rw [vcat_map]; omega) (by omega) (by omega) hd ?_
  rw [show (if (Int32.ofInt x < Int32.ofInt y) then Int32.ofInt y else Int32.ofInt x) = Int32.ofInt (if x < y then y else x) from ?_]
  · exact h
  · have e0 : (Int32.ofInt x < Int32.ofInt y) ↔ (x < y) := by rw [Int32.lt_iff_toInt_lt, ti32 hx, ti32 hy]
    by_cases q : x < y
    · rw [if_pos (e0.mpr q), if_pos q]
    · rw [if_neg (fun w => q (e0.mp w)), if_neg q]

theorem nm_min : yJ9_min_7cf53 = Lib.Math.min.name := rfl
theorem nc_min : cJ9_min_7cf53 = Lib.Math.min.code := by decide +kernel
theorem z_min {idx : Nat} {x y : Int} (hd : decode mi.2.1 pc = .ok (.invokestatic idx, 3)) (hlk : Cond.methodLink mi.1.cls idx yJ9_min_7cf53 ∈ wsG) (hd1 : 1 ≤ d) (hcat : (S.map vcat).sum ≤ 8) (k : ZZ X b d mi G (pc + 3) L (vi (if y < x then y else x) :: S) mem Q) : ZZ X b d mi G pc L (vi y :: vi x :: S) mem Q := by
  intro p l e R s m args below meth c D K ρ A n0 σ0 σ H locs cells slots mc ms ls hK hS hL hl
  have hx : i32 x := so_hd (so_tl hS)
  have hy : i32 y := so_hd hS
  have h : W p l e R s m args below meth c H locs cells slots (MQ below (zQ D K ρ n0 σ0 A Q) args s mc ms A) (F0 m (pc + 3) ls (.int (Int32.ofInt (if y < x then y else x)) :: S.map (rv σ ρ))) := k p l e R s m args below meth c D K ρ A n0 σ0 σ H locs cells slots mc ms ls hK (so_cons (show i32 _ by split <;> assumption) (so_tl (so_tl hS))) hL hl
  have hts := hK.1.1.2.2.2.2
  have hok := ok_J9_min_7cf53
  have hrm := hK.2.1
  have hbud := hK.2.2.1
  have hlk2 : Cond.methodLink mi.1.cls idx Lib.Math.min.name ∈ wsG := hlk
  have hst2 : Cond.static Lib.Math.min.name ∈ wsG := st_min
  have hcd : Cond.code Lib.Math.min.name Lib.Math.min.code 2 (some .int) ∈ wsG := by rw [← nc_min]; exact hok.1
  show W p l e R s m args below meth c H locs cells slots (MQ below (zQ D K ρ n0 σ0 A Q) args s mc ms A) (F0 m (pc) ls (.int (Int32.ofInt y) :: .int (Int32.ofInt x) :: S.map (rv σ ρ)))
  refine va_mmin hK.1.1.1 hK.1.1.2.1 (hK.1.1.2.2.1.trans hl.1.symm) hK.1.1.2.2.2.1 (hts _ hlk2) (hts _ hst2) (hts _ hok.2.1) (hts _ hcd) (by omega) (by rw [vcat_map]; omega) (by omega) (by omega) hd ?_
  rw [show (if (Int32.ofInt y < Int32.ofInt x) then Int32.ofInt y else Int32.ofInt x) = Int32.ofInt (if y < x then y else x) from ?_]
  · exact h
  · have e0 : (Int32.ofInt y < Int32.ofInt x) ↔ (y < x) := by rw [Int32.lt_iff_toInt_lt, ti32 hx, ti32 hy]
    by_cases q : y < x
    · rw [if_pos (e0.mpr q), if_pos q]
    · rw [if_neg (fun w => q (e0.mp w)), if_neg q]

theorem nm_abs : yJ9_abs_0f7a4 = Lib.Math.abs.name := rfl
theorem nc_abs : cJ9_abs_0f7a4 = Lib.Math.abs.code := by decide +kernel
theorem z_abs {idx : Nat} {x : Int} (hd : decode mi.2.1 pc = .ok (.invokestatic idx, 3)) (hlk : Cond.methodLink mi.1.cls idx yJ9_abs_0f7a4 ∈ wsG) (hd1 : 1 ≤ d) (hcat : (S.map vcat).sum ≤ 8) (hr : -2147483648 < x) (k : ZZ X b d mi G (pc + 3) L (vi (if 0 ≤ x then x else -x) :: S) mem Q) : ZZ X b d mi G pc L (vi x :: S) mem Q := by
  intro p l e R s m args below meth c D K ρ A n0 σ0 σ H locs cells slots mc ms ls hK hS hL hl
  have hx : i32 x := so_hd hS
  have hres : i32 (if 0 ≤ x then x else -x) := by
    unfold i32 at hx ⊢
    split <;> omega
  have h : W p l e R s m args below meth c H locs cells slots (MQ below (zQ D K ρ n0 σ0 A Q) args s mc ms A) (F0 m (pc + 3) ls (.int (Int32.ofInt (if 0 ≤ x then x else -x)) :: S.map (rv σ ρ))) := k p l e R s m args below meth c D K ρ A n0 σ0 σ H locs cells slots mc ms ls hK (so_cons hres (so_tl hS)) hL hl
  have hts := hK.1.1.2.2.2.2
  have hok := ok_J9_abs_0f7a4
  have hrm := hK.2.1
  have hbud := hK.2.2.1
  have hlk2 : Cond.methodLink mi.1.cls idx Lib.Math.abs.name ∈ wsG := hlk
  have hst2 : Cond.static Lib.Math.abs.name ∈ wsG := st_abs
  have hcd : Cond.code Lib.Math.abs.name Lib.Math.abs.code 1 (some .int) ∈ wsG := by rw [← nc_abs]; exact hok.1
  show W p l e R s m args below meth c H locs cells slots (MQ below (zQ D K ρ n0 σ0 A Q) args s mc ms A) (F0 m (pc) ls (.int (Int32.ofInt x) :: S.map (rv σ ρ)))
  refine va_mabs hK.1.1.1 hK.1.1.2.1 (hK.1.1.2.2.1.trans hl.1.symm) hK.1.1.2.2.2.1 (hts _ hlk2) (hts _ hst2) (hts _ hok.2.1) (hts _ hcd) (by omega) (by rw [vcat_map]; omega) (by omega) (by omega) hd ?_
  rw [show (if (0 : Int32) ≤ Int32.ofInt x then Int32.ofInt x else 0 - Int32.ofInt x) = Int32.ofInt (if 0 ≤ x then x else -x) from ?_]
  · exact h
  · have e0 : ((0 : Int32) ≤ Int32.ofInt x) ↔ (0 ≤ x) := by rw [Int32.le_iff_toInt_le, ti32 hx, Int32.toInt_zero]
    by_cases q : 0 ≤ x
    · rw [if_pos (e0.mpr q), if_pos q]
    · rw [if_neg (fun w => q (e0.mp w)), if_neg q, show -x = 0 - x by omega, Int32.ofInt_sub]
      rfl
/-- System.arraycopy from the start of one row of ints to the start of another -/
theorem z_copy {idx a0 a n0' n1 : Nat} {rs0 rs1 : List (Option Nat)} {n : Int} (hd : decode mi.2.1 pc = .ok (.invokestatic idx, 3)) (hlk : Cond.methodLink mi.1.cls idx arraycopyName ∈ wsG) (hd1 : 1 ≤ d) (hcat : (S.map vcat).sum ≤ 8)
    (hg0 : G[a0]? = some (1, n0', rs0)) (hg1 : G[a]? = some (1, n1, rs1)) (h0 : 0 ≤ n) (h1 : n ≤ (n0' : Int)) (h2 : n ≤ (n1 : Int))
    (k : ZZ X b d mi G (pc + 3) L S (mrow mem a (fun j => if 0 ≤ j ∧ j < n then mem a0 j else mem a j)) Q) : ZZ X b d mi G pc L (vi n :: vi 0 :: vr a :: vi 0 :: vr a0 :: S) mem Q := by
  intro p l e R s m args below meth c D K ρ A n0 σ0 σ H locs cells slots mc ms ls hK hS hL hl
  have hn : i32 n := so_hd hS
  have hts := hK.1.1.2.2.2.2
  have hrm := hK.2.1
  have hbud := hK.2.2.1
  show W p l e R s m args below meth c H locs cells slots (MQ below (zQ D K ρ n0 σ0 A Q) args s mc ms A) (F0 m (pc) ls (.int (Int32.ofInt n) :: .int (Int32.ofInt 0) :: .ref (σ a) :: .int (Int32.ofInt 0) :: .ref (σ a0) :: S.map (rv σ ρ)))
  have hz : (Int32.ofInt 0).toNatClampNeg = 0 := by decide
  have hnn := cl_nat h0 hn
  refine va_copyi hK.1.1.1 hK.1.1.2.1 (hK.1.1.2.2.1.trans hl.1.symm) hK.1.1.2.2.2.1 (hts _ hlk) (hts _ nat_copy) (hts _ st_copy) (hts _ in_system) hK.2.2.2.2.2.2.1 hK.2.2.2.2.2.2.2.2.1 hK.2.2.2.2.2.2.2.2.2.1 hK.2.2.2.2.2.2.2.2.2.2.1 a0 a 0 0 (zW_at hg0) (zW_at hg1) rfl rfl rfl (by decide) (by decide) ?_ (by rw [hz, hnn]; omega) (by rw [hz, hnn]; omega) (fun i _ => rfl) (by omega) ?_ hd (fun H1 locs1 hP1 hD1 hS1 => ?_)
  · intro q
    rw [Int32.lt_iff_toInt_lt, ti32 hn, Int32.toInt_zero] at q
    omega
  · rw [vcat_map]
    have : nativeFrameWords "java/lang/System" "arraycopy" 5 = 7 := by decide
    rw [this]
    omega
  · have hrow : mrow mem a (fun j => if 0 ≤ j ∧ j < n then mem a0 j else mem a j) a = (fun j => if 0 ≤ j ∧ j < n then mem a0 j else mem a j) := mrow_at _ _ _
    have ef : va_cpy (fun j : Nat => Int32.ofInt (mem a0 (j : Int))) (fun j : Nat => Int32.ofInt (mem a (j : Int))) (Int32.ofInt 0).toNatClampNeg (Int32.ofInt 0).toNatClampNeg (Int32.ofInt n).toNatClampNeg = (fun j : Nat => Int32.ofInt (mrow mem a (fun j => if 0 ≤ j ∧ j < n then mem a0 j else mem a j) a (j : Int))) := by
      funext i
      rw [hrow, hz, hnn]
      unfold va_cpy
      by_cases q : i < n.toNat
      · rw [if_pos ⟨by omega, by omega⟩]
        show _ = Int32.ofInt (if 0 ≤ (i : Int) ∧ (i : Int) < n then _ else _)
        rw [if_pos ⟨by omega, by omega⟩]
        simp
      · rw [if_neg (by omega)]
        show _ = Int32.ofInt (if 0 ≤ (i : Int) ∧ (i : Int) < n then _ else _)
        rw [if_neg (by omega)]
    rw [ef] at hP1 hD1
    have hg := hK.2.2.2.2.2.2.2.2.2.2.2
    refine k p l e R s m args below meth c D K ρ A n0 σ0 σ H1 locs1 cells slots mc ms ls (ZK_put hK hg1 rfl ⟨(hg a _ hg1).1, (hg a _ hg1).2.1, fun j => ?_⟩ (fun a' ha => mrow_ne mem ha _) hP1 hD1 hS1) (so_tl (so_tl (so_tl (so_tl (so_tl hS))))) hL hl
    rw [hrow]
    show i32 (if 0 ≤ j ∧ j < n then mem a0 j else mem a j)
    split
    · exact (hg a0 _ hg0).2.2 j
    · exact (hg a _ hg1).2.2 j
end RulesC
