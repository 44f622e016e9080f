theorem i32_tmod {x y : Int} (h : i32 x) : i32 (x.tmod y) := by
  unfold i32 at h ⊢
  have h1 := Int.natAbs_tmod x y
  have h2 : x.natAbs % y.natAbs ≤ x.natAbs := Nat.mod_le _ _
  by_cases hx : 0 ≤ x
  · have := Int.tmod_nonneg y hx
    omega
  · have := Int.tmod_nonneg y (show 0 ≤ -x by omega)
    rw [Int.neg_tmod] at this
    omega
theorem i64_tmod {x y : Int} (h : i64 x) : i64 (x.tmod y) := by
  unfold i64 at h ⊢
  have h1 := Int.natAbs_tmod x y
  have h2 : x.natAbs % y.natAbs ≤ x.natAbs := Nat.mod_le _ _
  by_cases hx : 0 ≤ x
  · have := Int.tmod_nonneg y hx
    omega
  · have := Int.tmod_nonneg y (show 0 ≤ -x by omega)
    rw [Int.neg_tmod] at this
    omega
section RulesA
variable {X : Nat × (Int → Int)} {b : Nat × Nat} {d : Nat} {mi : MI} {G : List GC} {pc : Nat} {L S : List VV} {mem : Mem} {Q : zPost}
theorem so_tl {n : Nat} {v : VV} {S : List VV} (h : ∀ x ∈ v :: S, vok n x) : ∀ x ∈ S, vok n x := fun x hx => h x (List.mem_cons_of_mem _ hx)
theorem so_hd {n : Nat} {v : VV} {S : List VV} (h : ∀ x ∈ v :: S, vok n x) : vok n v := h v List.mem_cons_self
theorem so_cons {n : Nat} {v : VV} {S : List VV} (hv : vok n v) (h : ∀ x ∈ S, vok n x) : ∀ x ∈ v :: S, vok n x := fun x hx => (List.mem_cons.mp hx).elim (fun e => e ▸ hv) (h x)
theorem oi_t (x : Int32) : Int32.ofInt x.toInt = x := Int32.ofInt_toInt x
theorem ol_t (x : Int64) : Int64.ofInt x.toInt = x := Int64.ofInt_toInt x
theorem z_iaddw {x y : Int} (hd : decode mi.2.1 pc = .ok (.iadd, 1)) (k : ZZ X b d mi G (pc + 1) L (vi (w32 (x + y)) :: S) mem Q) : ZZ X b d mi G pc L (vi y :: vi x :: S) mem Q := by
  intro p l e R s m args below meth c D K ρ A n0 σ0 σ H locs cells slots mc ms ls hK hS hL hl
  have h : W p l e R s m args below meth c H locs cells slots (MQ below (zQ D K ρ n0 σ0 A Q) args s mc ms A) (F0 m (pc + 1) ls (.int (Int32.ofInt (w32 (x + y))) :: S.map (rv σ ρ))) := k p l e R s m args below meth c D K ρ A n0 σ0 σ H locs cells slots mc ms ls hK (so_cons (w32_ok _) (so_tl (so_tl hS))) hL hl
  show W p l e R s m args below meth c H locs cells slots (MQ below (zQ D K ρ n0 σ0 A Q) args s mc ms A) (F0 m (pc) ls (.int (Int32.ofInt y) :: .int (Int32.ofInt x) :: S.map (rv σ ρ)))
  rw [show Int32.ofInt (w32 (x + y)) = Int32.ofInt x + Int32.ofInt y from (ofInt_w32 _).trans (Int32.ofInt_add x y)] at h
  exact lv_iadd hK.1.1.1 hK.1.1.2.1 hd h

theorem z_iadd {x y : Int} (hd : decode mi.2.1 pc = .ok (.iadd, 1)) (hr : i32 (x + y)) (k : ZZ X b d mi G (pc + 1) L (vi (x + y) :: S) mem Q) : ZZ X b d mi G pc L (vi y :: vi x :: S) mem Q := z_iaddw hd (by rw [w32_id hr]; exact k)
theorem z_isubw {x y : Int} (hd : decode mi.2.1 pc = .ok (.isub, 1)) (k : ZZ X b d mi G (pc + 1) L (vi (w32 (x - y)) :: S) mem Q) : ZZ X b d mi G pc L (vi y :: vi x :: S) mem Q := by
  intro p l e R s m args below meth c D K ρ A n0 σ0 σ H locs cells slots mc ms ls hK hS hL hl
  have h : W p l e R s m args below meth c H locs cells slots (MQ below (zQ D K ρ n0 σ0 A Q) args s mc ms A) (F0 m (pc + 1) ls (.int (Int32.ofInt (w32 (x - y))) :: S.map (rv σ ρ))) := k p l e R s m args below meth c D K ρ A n0 σ0 σ H locs cells slots mc ms ls hK (so_cons (w32_ok _) (so_tl (so_tl hS))) hL hl
  show W p l e R s m args below meth c H locs cells slots (MQ below (zQ D K ρ n0 σ0 A Q) args s mc ms A) (F0 m (pc) ls (.int (Int32.ofInt y) :: .int (Int32.ofInt x) :: S.map (rv σ ρ)))
  rw [show Int32.ofInt (w32 (x - y)) = Int32.ofInt x - Int32.ofInt y from (ofInt_w32 _).trans (Int32.ofInt_sub x y)] at h
  exact lv_isub hK.1.1.1 hK.1.1.2.1 hd h

theorem z_isub {x y : Int} (hd : decode mi.2.1 pc = .ok (.isub, 1)) (hr : i32 (x - y)) (k : ZZ X b d mi G (pc + 1) L (vi (x - y) :: S) mem Q) : ZZ X b d mi G pc L (vi y :: vi x :: S) mem Q := z_isubw hd (by rw [w32_id hr]; exact k)
theorem z_imulw {x y : Int} (hd : decode mi.2.1 pc = .ok (.imul, 1)) (k : ZZ X b d mi G (pc + 1) L (vi (w32 (x * y)) :: S) mem Q) : ZZ X b d mi G pc L (vi y :: vi x :: S) mem Q := by
  intro p l e R s m args below meth c D K ρ A n0 σ0 σ H locs cells slots mc ms ls hK hS hL hl
  have h : W p l e R s m args below meth c H locs cells slots (MQ below (zQ D K ρ n0 σ0 A Q) args s mc ms A) (F0 m (pc + 1) ls (.int (Int32.ofInt (w32 (x * y))) :: S.map (rv σ ρ))) := k p l e R s m args below meth c D K ρ A n0 σ0 σ H locs cells slots mc ms ls hK (so_cons (w32_ok _) (so_tl (so_tl hS))) hL hl
  show W p l e R s m args below meth c H locs cells slots (MQ below (zQ D K ρ n0 σ0 A Q) args s mc ms A) (F0 m (pc) ls (.int (Int32.ofInt y) :: .int (Int32.ofInt x) :: S.map (rv σ ρ)))
  rw [show Int32.ofInt (w32 (x * y)) = Int32.ofInt x * Int32.ofInt y from (ofInt_w32 _).trans (Int32.ofInt_mul x y)] at h
  exact lv_imul hK.1.1.1 hK.1.1.2.1 hd h

theorem z_imul {x y : Int} (hd : decode mi.2.1 pc = .ok (.imul, 1)) (hr : i32 (x * y)) (k : ZZ X b d mi G (pc + 1) L (vi (x * y) :: S) mem Q) : ZZ X b d mi G pc L (vi y :: vi x :: S) mem Q := z_imulw hd (by rw [w32_id hr]; exact k)
def iandV (x y : Int) : Int := (Int32.ofInt x &&& Int32.ofInt y).toInt
theorem z_iand {x y : Int} (hd : decode mi.2.1 pc = .ok (.iand, 1)) (k : ZZ X b d mi G (pc + 1) L (vi (iandV x y) :: S) mem Q) : ZZ X b d mi G pc L (vi y :: vi x :: S) mem Q := by
  intro p l e R s m args below meth c D K ρ A n0 σ0 σ H locs cells slots mc ms ls hK hS hL hl
  have h : W p l e R s m args below meth c H locs cells slots (MQ below (zQ D K ρ n0 σ0 A Q) args s mc ms A) (F0 m (pc + 1) ls (.int (Int32.ofInt (iandV x y)) :: S.map (rv σ ρ))) := k p l e R s m args below meth c D K ρ A n0 σ0 σ H locs cells slots mc ms ls hK (so_cons (oi32 _) (so_tl (so_tl hS))) hL hl
  show W p l e R s m args below meth c H locs cells slots (MQ below (zQ D K ρ n0 σ0 A Q) args s mc ms A) (F0 m (pc) ls (.int (Int32.ofInt y) :: .int (Int32.ofInt x) :: S.map (rv σ ρ)))
  rw [show Int32.ofInt (iandV x y) = Int32.ofInt x &&& Int32.ofInt y from oi_t _] at h
  exact lv_iand hK.1.1.1 hK.1.1.2.1 hd h

def iorV (x y : Int) : Int := (Int32.ofInt x ||| Int32.ofInt y).toInt
theorem z_ior {x y : Int} (hd : decode mi.2.1 pc = .ok (.ior, 1)) (k : ZZ X b d mi G (pc + 1) L (vi (iorV x y) :: S) mem Q) : ZZ X b d mi G pc L (vi y :: vi x :: S) mem Q := by
  intro p l e R s m args below meth c D K ρ A n0 σ0 σ H locs cells slots mc ms ls hK hS hL hl
  have h : W p l e R s m args below meth c H locs cells slots (MQ below (zQ D K ρ n0 σ0 A Q) args s mc ms A) (F0 m (pc + 1) ls (.int (Int32.ofInt (iorV x y)) :: S.map (rv σ ρ))) := k p l e R s m args below meth c D K ρ A n0 σ0 σ H locs cells slots mc ms ls hK (so_cons (oi32 _) (so_tl (so_tl hS))) hL hl
  show W p l e R s m args below meth c H locs cells slots (MQ below (zQ D K ρ n0 σ0 A Q) args s mc ms A) (F0 m (pc) ls (.int (Int32.ofInt y) :: .int (Int32.ofInt x) :: S.map (rv σ ρ)))
  rw [show Int32.ofInt (iorV x y) = Int32.ofInt x ||| Int32.ofInt y from oi_t _] at h
  exact lv_ior hK.1.1.1 hK.1.1.2.1 hd h

def ixorV (x y : Int) : Int := (Int32.ofInt x ^^^ Int32.ofInt y).toInt
theorem z_ixor {x y : Int} (hd : decode mi.2.1 pc = .ok (.ixor, 1)) (k : ZZ X b d mi G (pc + 1) L (vi (ixorV x y) :: S) mem Q) : ZZ X b d mi G pc L (vi y :: vi x :: S) mem Q := by
  intro p l e R s m args below meth c D K ρ A n0 σ0 σ H locs cells slots mc ms ls hK hS hL hl
  have h : W p l e R s m args below meth c H locs cells slots (MQ below (zQ D K ρ n0 σ0 A Q) args s mc ms A) (F0 m (pc + 1) ls (.int (Int32.ofInt (ixorV x y)) :: S.map (rv σ ρ))) := k p l e R s m args below meth c D K ρ A n0 σ0 σ H locs cells slots mc ms ls hK (so_cons (oi32 _) (so_tl (so_tl hS))) hL hl
  show W p l e R s m args below meth c H locs cells slots (MQ below (zQ D K ρ n0 σ0 A Q) args s mc ms A) (F0 m (pc) ls (.int (Int32.ofInt y) :: .int (Int32.ofInt x) :: S.map (rv σ ρ)))
  rw [show Int32.ofInt (ixorV x y) = Int32.ofInt x ^^^ Int32.ofInt y from oi_t _] at h
  exact lv_ixor hK.1.1.1 hK.1.1.2.1 hd h

def ishlV (x y : Int) : Int := (Int32.ofInt x <<< (Int32.ofInt y &&& 31)).toInt
theorem z_ishl {x y : Int} (hd : decode mi.2.1 pc = .ok (.ishl, 1)) (k : ZZ X b d mi G (pc + 1) L (vi (ishlV x y) :: S) mem Q) : ZZ X b d mi G pc L (vi y :: vi x :: S) mem Q := by
  intro p l e R s m args below meth c D K ρ A n0 σ0 σ H locs cells slots mc ms ls hK hS hL hl
  have h : W p l e R s m args below meth c H locs cells slots (MQ below (zQ D K ρ n0 σ0 A Q) args s mc ms A) (F0 m (pc + 1) ls (.int (Int32.ofInt (ishlV x y)) :: S.map (rv σ ρ))) := k p l e R s m args below meth c D K ρ A n0 σ0 σ H locs cells slots mc ms ls hK (so_cons (oi32 _) (so_tl (so_tl hS))) hL hl
  show W p l e R s m args below meth c H locs cells slots (MQ below (zQ D K ρ n0 σ0 A Q) args s mc ms A) (F0 m (pc) ls (.int (Int32.ofInt y) :: .int (Int32.ofInt x) :: S.map (rv σ ρ)))
  rw [show Int32.ofInt (ishlV x y) = Int32.ofInt x <<< (Int32.ofInt y &&& 31) from oi_t _] at h
  exact lv_ishl hK.1.1.1 hK.1.1.2.1 hd h

def ishrV (x y : Int) : Int := (Int32.ofInt x >>> (Int32.ofInt y &&& 31)).toInt
theorem z_ishr {x y : Int} (hd : decode mi.2.1 pc = .ok (.ishr, 1)) (k : ZZ X b d mi G (pc + 1) L (vi (ishrV x y) :: S) mem Q) : ZZ X b d mi G pc L (vi y :: vi x :: S) mem Q := by
  intro p l e R s m args below meth c D K ρ A n0 σ0 σ H locs cells slots mc ms ls hK hS hL hl
  have h : W p l e R s m args below meth c H locs cells slots (MQ below (zQ D K ρ n0 σ0 A Q) args s mc ms A) (F0 m (pc + 1) ls (.int (Int32.ofInt (ishrV x y)) :: S.map (rv σ ρ))) := k p l e R s m args below meth c D K ρ A n0 σ0 σ H locs cells slots mc ms ls hK (so_cons (oi32 _) (so_tl (so_tl hS))) hL hl
  show W p l e R s m args below meth c H locs cells slots (MQ below (zQ D K ρ n0 σ0 A Q) args s mc ms A) (F0 m (pc) ls (.int (Int32.ofInt y) :: .int (Int32.ofInt x) :: S.map (rv σ ρ)))
  rw [show Int32.ofInt (ishrV x y) = Int32.ofInt x >>> (Int32.ofInt y &&& 31) from oi_t _] at h
  exact lv_ishr hK.1.1.1 hK.1.1.2.1 hd h

def iushrV (x y : Int) : Int := ((Int32.ofInt x).toUInt32 >>> ((Int32.ofInt y).toUInt32 &&& Int32.toUInt32 31)).toInt32.toInt
theorem z_iushr {x y : Int} (hd : decode mi.2.1 pc = .ok (.iushr, 1)) (k : ZZ X b d mi G (pc + 1) L (vi (iushrV x y) :: S) mem Q) : ZZ X b d mi G pc L (vi y :: vi x :: S) mem Q := by
  intro p l e R s m args below meth c D K ρ A n0 σ0 σ H locs cells slots mc ms ls hK hS hL hl
  have h : W p l e R s m args below meth c H locs cells slots (MQ below (zQ D K ρ n0 σ0 A Q) args s mc ms A) (F0 m (pc + 1) ls (.int (Int32.ofInt (iushrV x y)) :: S.map (rv σ ρ))) := k p l e R s m args below meth c D K ρ A n0 σ0 σ H locs cells slots mc ms ls hK (so_cons (oi32 _) (so_tl (so_tl hS))) hL hl
  show W p l e R s m args below meth c H locs cells slots (MQ below (zQ D K ρ n0 σ0 A Q) args s mc ms A) (F0 m (pc) ls (.int (Int32.ofInt y) :: .int (Int32.ofInt x) :: S.map (rv σ ρ)))
  rw [show Int32.ofInt (iushrV x y) = ((Int32.ofInt x).toUInt32 >>> ((Int32.ofInt y).toUInt32 &&& Int32.toUInt32 31)).toInt32 from oi_t _] at h
  exact lv_iushr hK.1.1.1 hK.1.1.2.1 hd rfl h

theorem ofInt_ne0 {y : Int} (hy : i32 y) (h : y ≠ 0) : ¬ Int32.ofInt y = 0 := fun q => h (by have := congrArg Int32.toInt q; rw [ti32 hy] at this; exact this)
theorem ofInt_ne0l {y : Int} (hy : i64 y) (h : y ≠ 0) : ¬ Int64.ofInt y = 0 := fun q => h (by have := congrArg Int64.toInt q; rw [ti64 hy] at this; exact this)
theorem z_idivw {x y : Int} (hd : decode mi.2.1 pc = .ok (.idiv, 1)) (hne : y ≠ 0) (k : ZZ X b d mi G (pc + 1) L (vi (w32 (x.tdiv y)) :: S) mem Q) : ZZ X b d mi G pc L (vi y :: vi x :: S) mem Q := by
  intro p l e R s m args below meth c D K ρ A n0 σ0 σ H locs cells slots mc ms ls hK hS hL hl
  have h : W p l e R s m args below meth c H locs cells slots (MQ below (zQ D K ρ n0 σ0 A Q) args s mc ms A) (F0 m (pc + 1) ls (.int (Int32.ofInt (w32 (x.tdiv y))) :: S.map (rv σ ρ))) := k p l e R s m args below meth c D K ρ A n0 σ0 σ H locs cells slots mc ms ls hK (so_cons (w32_ok _) (so_tl (so_tl hS))) hL hl
  show W p l e R s m args below meth c H locs cells slots (MQ below (zQ D K ρ n0 σ0 A Q) args s mc ms A) (F0 m (pc) ls (.int (Int32.ofInt y) :: .int (Int32.ofInt x) :: S.map (rv σ ρ)))
  rw [show Int32.ofInt (w32 (x.tdiv y)) = Int32.ofInt x / Int32.ofInt y from (by apply Int32.toInt_inj.mp; rw [ti32 (w32_ok _), Int32.toInt_div, ti32 (so_hd (so_tl hS)), ti32 (so_hd hS)]; rfl)] at h
  exact lv_idiv hK.1.1.1 hK.1.1.2.1 hd (ofInt_ne0 (so_hd hS) hne) h

theorem d32 {x y : Int} (hx : i32 x) (hy : i32 y) : Int32.ofInt x / Int32.ofInt y = Int32.ofInt (x.tdiv y) := by apply Int32.toInt_inj.mp; rw [Int32.toInt_div, ti32 hx, ti32 hy, Int32.toInt_ofInt]
theorem d64 {x y : Int} (hx : i64 x) (hy : i64 y) : Int64.ofInt x / Int64.ofInt y = Int64.ofInt (x.tdiv y) := by apply Int64.toInt_inj.mp; rw [Int64.toInt_div, ti64 hx, ti64 hy, Int64.toInt_ofInt]
theorem m32 {x y : Int} (hx : i32 x) (hy : i32 y) : Int32.ofInt (x.tmod y) = Int32.ofInt x - Int32.ofInt x / Int32.ofInt y * Int32.ofInt y := by rw [d32 hx hy, ← Int32.ofInt_mul, ← Int32.ofInt_sub]; congr 1; have := Int.tmod_add_tdiv_mul x y; omega
theorem m64 {x y : Int} (hx : i64 x) (hy : i64 y) : Int64.ofInt (x.tmod y) = Int64.ofInt x - Int64.ofInt x / Int64.ofInt y * Int64.ofInt y := by rw [d64 hx hy, ← Int64.ofInt_mul, ← Int64.ofInt_sub]; congr 1; have := Int.tmod_add_tdiv_mul x y; omega
theorem z_irem {x y : Int} (hd : decode mi.2.1 pc = .ok (.irem, 1)) (hne : y ≠ 0) (k : ZZ X b d mi G (pc + 1) L (vi (x.tmod y) :: S) mem Q) : ZZ X b d mi G pc L (vi y :: vi x :: S) mem Q := by
  intro p l e R s m args below meth c D K ρ A n0 σ0 σ H locs cells slots mc ms ls hK hS hL hl
  have h : W p l e R s m args below meth c H locs cells slots (MQ below (zQ D K ρ n0 σ0 A Q) args s mc ms A) (F0 m (pc + 1) ls (.int (Int32.ofInt (x.tmod y)) :: S.map (rv σ ρ))) := k p l e R s m args below meth c D K ρ A n0 σ0 σ H locs cells slots mc ms ls hK (so_cons (i32_tmod (so_hd (so_tl hS))) (so_tl (so_tl hS))) hL hl
  show W p l e R s m args below meth c H locs cells slots (MQ below (zQ D K ρ n0 σ0 A Q) args s mc ms A) (F0 m (pc) ls (.int (Int32.ofInt y) :: .int (Int32.ofInt x) :: S.map (rv σ ρ)))
  rw [show Int32.ofInt (x.tmod y) = Int32.ofInt x - Int32.ofInt x / Int32.ofInt y * Int32.ofInt y from m32 (so_hd (so_tl hS)) (so_hd hS)] at h
  exact lv_irem hK.1.1.1 hK.1.1.2.1 hd (ofInt_ne0 (so_hd hS) hne) h

theorem z_laddw {x y : Int} (hd : decode mi.2.1 pc = .ok (.ladd, 1)) (k : ZZ X b d mi G (pc + 1) L (vl (w64 (x + y)) :: S) mem Q) : ZZ X b d mi G pc L (vl y :: vl x :: S) mem Q := by
  intro p l e R s m args below meth c D K ρ A n0 σ0 σ H locs cells slots mc ms ls hK hS hL hl
  have h : W p l e R s m args below meth c H locs cells slots (MQ below (zQ D K ρ n0 σ0 A Q) args s mc ms A) (F0 m (pc + 1) ls (.long (Int64.ofInt (w64 (x + y))) :: S.map (rv σ ρ))) := k p l e R s m args below meth c D K ρ A n0 σ0 σ H locs cells slots mc ms ls hK (so_cons (w64_ok _) (so_tl (so_tl hS))) hL hl
  show W p l e R s m args below meth c H locs cells slots (MQ below (zQ D K ρ n0 σ0 A Q) args s mc ms A) (F0 m (pc) ls (.long (Int64.ofInt y) :: .long (Int64.ofInt x) :: S.map (rv σ ρ)))
  rw [show Int64.ofInt (w64 (x + y)) = Int64.ofInt x + Int64.ofInt y from (ofInt_w64 _).trans (Int64.ofInt_add x y)] at h
  exact lv_ladd hK.1.1.1 hK.1.1.2.1 hd h

theorem z_ladd {x y : Int} (hd : decode mi.2.1 pc = .ok (.ladd, 1)) (hr : i64 (x + y)) (k : ZZ X b d mi G (pc + 1) L (vl (x + y) :: S) mem Q) : ZZ X b d mi G pc L (vl y :: vl x :: S) mem Q := z_laddw hd (by rw [w64_id hr]; exact k)
theorem z_lsubw {x y : Int} (hd : decode mi.2.1 pc = .ok (.lsub, 1)) (k : ZZ X b d mi G (pc + 1) L (vl (w64 (x - y)) :: S) mem Q) : ZZ X b d mi G pc L (vl y :: vl x :: S) mem Q := by
  intro p l e R s m args below meth c D K ρ A n0 σ0 σ H locs cells slots mc ms ls hK hS hL hl
  have h : W p l e R s m args below meth c H locs cells slots (MQ below (zQ D K ρ n0 σ0 A Q) args s mc ms A) (F0 m (pc + 1) ls (.long (Int64.ofInt (w64 (x - y))) :: S.map (rv σ ρ))) := k p l e R s m args below meth c D K ρ A n0 σ0 σ H locs cells slots mc ms ls hK (so_cons (w64_ok _) (so_tl (so_tl hS))) hL hl
  show W p l e R s m args below meth c H locs cells slots (MQ below (zQ D K ρ n0 σ0 A Q) args s mc ms A) (F0 m (pc) ls (.long (Int64.ofInt y) :: .long (Int64.ofInt x) :: S.map (rv σ ρ)))
  rw [show Int64.ofInt (w64 (x - y)) = Int64.ofInt x - Int64.ofInt y from (ofInt_w64 _).trans (Int64.ofInt_sub x y)] at h
  exact lv_lsub hK.1.1.1 hK.1.1.2.1 hd h

theorem z_lsub {x y : Int} (hd : decode mi.2.1 pc = .ok (.lsub, 1)) (hr : i64 (x - y)) (k : ZZ X b d mi G (pc + 1) L (vl (x - y) :: S) mem Q) : ZZ X b d mi G pc L (vl y :: vl x :: S) mem Q := z_lsubw hd (by rw [w64_id hr]; exact k)
theorem z_lmulw {x y : Int} (hd : decode mi.2.1 pc = .ok (.lmul, 1)) (k : ZZ X b d mi G (pc + 1) L (vl (w64 (x * y)) :: S) mem Q) : ZZ X b d mi G pc L (vl y :: vl x :: S) mem Q := by
  intro p l e R s m args below meth c D K ρ A n0 σ0 σ H locs cells slots mc ms ls hK hS hL hl
  have h : W p l e R s m args below meth c H locs cells slots (MQ below (zQ D K ρ n0 σ0 A Q) args s mc ms A) (F0 m (pc + 1) ls (.long (Int64.ofInt (w64 (x * y))) :: S.map (rv σ ρ))) := k p l e R s m args below meth c D K ρ A n0 σ0 σ H locs cells slots mc ms ls hK (so_cons (w64_ok _) (so_tl (so_tl hS))) hL hl
  show W p l e R s m args below meth c H locs cells slots (MQ below (zQ D K ρ n0 σ0 A Q) args s mc ms A) (F0 m (pc) ls (.long (Int64.ofInt y) :: .long (Int64.ofInt x) :: S.map (rv σ ρ)))
  rw [show Int64.ofInt (w64 (x * y)) = Int64.ofInt x * Int64.ofInt y from (ofInt_w64 _).trans (Int64.ofInt_mul x y)] at h
  exact lv_lmul hK.1.1.1 hK.1.1.2.1 hd h

theorem z_lmul {x y : Int} (hd : decode mi.2.1 pc = .ok (.lmul, 1)) (hr : i64 (x * y)) (k : ZZ X b d mi G (pc + 1) L (vl (x * y) :: S) mem Q) : ZZ X b d mi G pc L (vl y :: vl x :: S) mem Q := z_lmulw hd (by rw [w64_id hr]; exact k)
def landV (x y : Int) : Int := (Int64.ofInt x &&& Int64.ofInt y).toInt
theorem z_land {x y : Int} (hd : decode mi.2.1 pc = .ok (.land, 1)) (k : ZZ X b d mi G (pc + 1) L (vl (landV x y) :: S) mem Q) : ZZ X b d mi G pc L (vl y :: vl x :: S) mem Q := by
  intro p l e R s m args below meth c D K ρ A n0 σ0 σ H locs cells slots mc ms ls hK hS hL hl
  have h : W p l e R s m args below meth c H locs cells slots (MQ below (zQ D K ρ n0 σ0 A Q) args s mc ms A) (F0 m (pc + 1) ls (.long (Int64.ofInt (landV x y)) :: S.map (rv σ ρ))) := k p l e R s m args below meth c D K ρ A n0 σ0 σ H locs cells slots mc ms ls hK (so_cons (oi64 _) (so_tl (so_tl hS))) hL hl
  show W p l e R s m args below meth c H locs cells slots (MQ below (zQ D K ρ n0 σ0 A Q) args s mc ms A) (F0 m (pc) ls (.long (Int64.ofInt y) :: .long (Int64.ofInt x) :: S.map (rv σ ρ)))
  rw [show Int64.ofInt (landV x y) = Int64.ofInt x &&& Int64.ofInt y from ol_t _] at h
  exact lv_land hK.1.1.1 hK.1.1.2.1 hd h

def lorV (x y : Int) : Int := (Int64.ofInt x ||| Int64.ofInt y).toInt
theorem z_lor {x y : Int} (hd : decode mi.2.1 pc = .ok (.lor, 1)) (k : ZZ X b d mi G (pc + 1) L (vl (lorV x y) :: S) mem Q) : ZZ X b d mi G pc L (vl y :: vl x :: S) mem Q := by
  intro p l e R s m args below meth c D K ρ A n0 σ0 σ H locs cells slots mc ms ls hK hS hL hl
  have h : W p l e R s m args below meth c H locs cells slots (MQ below (zQ D K ρ n0 σ0 A Q) args s mc ms A) (F0 m (pc + 1) ls (.long (Int64.ofInt (lorV x y)) :: S.map (rv σ ρ))) := k p l e R s m args below meth c D K ρ A n0 σ0 σ H locs cells slots mc ms ls hK (so_cons (oi64 _) (so_tl (so_tl hS))) hL hl
  show W p l e R s m args below meth c H locs cells slots (MQ below (zQ D K ρ n0 σ0 A Q) args s mc ms A) (F0 m (pc) ls (.long (Int64.ofInt y) :: .long (Int64.ofInt x) :: S.map (rv σ ρ)))
  rw [show Int64.ofInt (lorV x y) = Int64.ofInt x ||| Int64.ofInt y from ol_t _] at h
  exact lv_lor hK.1.1.1 hK.1.1.2.1 hd h

def lshlV (x y : Int) : Int := (Int64.ofInt x <<< ((Int32.ofInt y).toInt64 &&& 63)).toInt
theorem z_lshl {x y : Int} (hd : decode mi.2.1 pc = .ok (.lshl, 1)) (k : ZZ X b d mi G (pc + 1) L (vl (lshlV x y) :: S) mem Q) : ZZ X b d mi G pc L (vi y :: vl x :: S) mem Q := by
  intro p l e R s m args below meth c D K ρ A n0 σ0 σ H locs cells slots mc ms ls hK hS hL hl
  have h : W p l e R s m args below meth c H locs cells slots (MQ below (zQ D K ρ n0 σ0 A Q) args s mc ms A) (F0 m (pc + 1) ls (.long (Int64.ofInt (lshlV x y)) :: S.map (rv σ ρ))) := k p l e R s m args below meth c D K ρ A n0 σ0 σ H locs cells slots mc ms ls hK (so_cons (oi64 _) (so_tl (so_tl hS))) hL hl
  show W p l e R s m args below meth c H locs cells slots (MQ below (zQ D K ρ n0 σ0 A Q) args s mc ms A) (F0 m (pc) ls (.int (Int32.ofInt y) :: .long (Int64.ofInt x) :: S.map (rv σ ρ)))
  rw [show Int64.ofInt (lshlV x y) = Int64.ofInt x <<< ((Int32.ofInt y).toInt64 &&& 63) from ol_t _] at h
  exact lv_lshl hK.1.1.1 hK.1.1.2.1 hd rfl h

def lshrV (x y : Int) : Int := (Int64.ofInt x >>> ((Int32.ofInt y).toInt64 &&& 63)).toInt
theorem z_lshr {x y : Int} (hd : decode mi.2.1 pc = .ok (.lshr, 1)) (k : ZZ X b d mi G (pc + 1) L (vl (lshrV x y) :: S) mem Q) : ZZ X b d mi G pc L (vi y :: vl x :: S) mem Q := by
  intro p l e R s m args below meth c D K ρ A n0 σ0 σ H locs cells slots mc ms ls hK hS hL hl
  have h : W p l e R s m args below meth c H locs cells slots (MQ below (zQ D K ρ n0 σ0 A Q) args s mc ms A) (F0 m (pc + 1) ls (.long (Int64.ofInt (lshrV x y)) :: S.map (rv σ ρ))) := k p l e R s m args below meth c D K ρ A n0 σ0 σ H locs cells slots mc ms ls hK (so_cons (oi64 _) (so_tl (so_tl hS))) hL hl
  show W p l e R s m args below meth c H locs cells slots (MQ below (zQ D K ρ n0 σ0 A Q) args s mc ms A) (F0 m (pc) ls (.int (Int32.ofInt y) :: .long (Int64.ofInt x) :: S.map (rv σ ρ)))
  rw [show Int64.ofInt (lshrV x y) = Int64.ofInt x >>> ((Int32.ofInt y).toInt64 &&& 63) from ol_t _] at h
  exact lv_lshr hK.1.1.1 hK.1.1.2.1 hd rfl h

def lushrV (x y : Int) : Int := ((Int64.ofInt x).toUInt64 >>> ((Int32.ofInt y).toInt64.toUInt64 &&& Int64.toUInt64 63)).toInt64.toInt
theorem z_lushr {x y : Int} (hd : decode mi.2.1 pc = .ok (.lushr, 1)) (k : ZZ X b d mi G (pc + 1) L (vl (lushrV x y) :: S) mem Q) : ZZ X b d mi G pc L (vi y :: vl x :: S) mem Q := by
  intro p l e R s m args below meth c D K ρ A n0 σ0 σ H locs cells slots mc ms ls hK hS hL hl
  have h : W p l e R s m args below meth c H locs cells slots (MQ below (zQ D K ρ n0 σ0 A Q) args s mc ms A) (F0 m (pc + 1) ls (.long (Int64.ofInt (lushrV x y)) :: S.map (rv σ ρ))) := k p l e R s m args below meth c D K ρ A n0 σ0 σ H locs cells slots mc ms ls hK (so_cons (oi64 _) (so_tl (so_tl hS))) hL hl
  show W p l e R s m args below meth c H locs cells slots (MQ below (zQ D K ρ n0 σ0 A Q) args s mc ms A) (F0 m (pc) ls (.int (Int32.ofInt y) :: .long (Int64.ofInt x) :: S.map (rv σ ρ)))
  rw [show Int64.ofInt (lushrV x y) = ((Int64.ofInt x).toUInt64 >>> ((Int32.ofInt y).toInt64.toUInt64 &&& Int64.toUInt64 63)).toInt64 from ol_t _] at h
  exact lv_lushr hK.1.1.1 hK.1.1.2.1 hd rfl h

theorem z_ldivw {x y : Int} (hd : decode mi.2.1 pc = .ok (.ldiv, 1)) (hne : y ≠ 0) (k : ZZ X b d mi G (pc + 1) L (vl (w64 (x.tdiv y)) :: S) mem Q) : ZZ X b d mi G pc L (vl y :: vl x :: S) mem Q := by
  intro p l e R s m args below meth c D K ρ A n0 σ0 σ H locs cells slots mc ms ls hK hS hL hl
  have h : W p l e R s m args below meth c H locs cells slots (MQ below (zQ D K ρ n0 σ0 A Q) args s mc ms A) (F0 m (pc + 1) ls (.long (Int64.ofInt (w64 (x.tdiv y))) :: S.map (rv σ ρ))) := k p l e R s m args below meth c D K ρ A n0 σ0 σ H locs cells slots mc ms ls hK (so_cons (w64_ok _) (so_tl (so_tl hS))) hL hl
  show W p l e R s m args below meth c H locs cells slots (MQ below (zQ D K ρ n0 σ0 A Q) args s mc ms A) (F0 m (pc) ls (.long (Int64.ofInt y) :: .long (Int64.ofInt x) :: S.map (rv σ ρ)))
  rw [show Int64.ofInt (w64 (x.tdiv y)) = Int64.ofInt x / Int64.ofInt y from (by apply Int64.toInt_inj.mp; rw [ti64 (w64_ok _), Int64.toInt_div, ti64 (so_hd (so_tl hS)), ti64 (so_hd hS)]; rfl)] at h
  exact lv_ldiv hK.1.1.1 hK.1.1.2.1 hd (ofInt_ne0l (so_hd hS) hne) h

theorem z_lrem {x y : Int} (hd : decode mi.2.1 pc = .ok (.lrem, 1)) (hne : y ≠ 0) (k : ZZ X b d mi G (pc + 1) L (vl (x.tmod y) :: S) mem Q) : ZZ X b d mi G pc L (vl y :: vl x :: S) mem Q := by
  intro p l e R s m args below meth c D K ρ A n0 σ0 σ H locs cells slots mc ms ls hK hS hL hl
  have h : W p l e R s m args below meth c H locs cells slots (MQ below (zQ D K ρ n0 σ0 A Q) args s mc ms A) (F0 m (pc + 1) ls (.long (Int64.ofInt (x.tmod y)) :: S.map (rv σ ρ))) := k p l e R s m args below meth c D K ρ A n0 σ0 σ H locs cells slots mc ms ls hK (so_cons (i64_tmod (so_hd (so_tl hS))) (so_tl (so_tl hS))) hL hl
  show W p l e R s m args below meth c H locs cells slots (MQ below (zQ D K ρ n0 σ0 A Q) args s mc ms A) (F0 m (pc) ls (.long (Int64.ofInt y) :: .long (Int64.ofInt x) :: S.map (rv σ ρ)))
  rw [show Int64.ofInt (x.tmod y) = Int64.ofInt x - Int64.ofInt x / Int64.ofInt y * Int64.ofInt y from m64 (so_hd (so_tl hS)) (so_hd hS)] at h
  exact lv_lrem hK.1.1.1 hK.1.1.2.1 hd (ofInt_ne0l (so_hd hS) hne) h

theorem z_inegw {x : Int} (hd : decode mi.2.1 pc = .ok (.ineg, 1)) (k : ZZ X b d mi G (pc + 1) L (vi (w32 (-x)) :: S) mem Q) : ZZ X b d mi G pc L (vi x :: S) mem Q := by
  intro p l e R s m args below meth c D K ρ A n0 σ0 σ H locs cells slots mc ms ls hK hS hL hl
  have h : W p l e R s m args below meth c H locs cells slots (MQ below (zQ D K ρ n0 σ0 A Q) args s mc ms A) (F0 m (pc + 1) ls (.int (Int32.ofInt (w32 (-x))) :: S.map (rv σ ρ))) := k p l e R s m args below meth c D K ρ A n0 σ0 σ H locs cells slots mc ms ls hK (so_cons (w32_ok _) (so_tl hS)) hL hl
  show W p l e R s m args below meth c H locs cells slots (MQ below (zQ D K ρ n0 σ0 A Q) args s mc ms A) (F0 m (pc) ls (.int (Int32.ofInt x) :: S.map (rv σ ρ)))
  rw [show Int32.ofInt (w32 (-x)) = -Int32.ofInt x from (ofInt_w32 _).trans (Int32.ofInt_neg x)] at h
  exact lv_ineg hK.1.1.1 hK.1.1.2.1 hd h

theorem z_lnegw {x : Int} (hd : decode mi.2.1 pc = .ok (.lneg, 1)) (k : ZZ X b d mi G (pc + 1) L (vl (w64 (-x)) :: S) mem Q) : ZZ X b d mi G pc L (vl x :: S) mem Q := by
  intro p l e R s m args below meth c D K ρ A n0 σ0 σ H locs cells slots mc ms ls hK hS hL hl
  have h : W p l e R s m args below meth c H locs cells slots (MQ below (zQ D K ρ n0 σ0 A Q) args s mc ms A) (F0 m (pc + 1) ls (.long (Int64.ofInt (w64 (-x))) :: S.map (rv σ ρ))) := k p l e R s m args below meth c D K ρ A n0 σ0 σ H locs cells slots mc ms ls hK (so_cons (w64_ok _) (so_tl hS)) hL hl
  show W p l e R s m args below meth c H locs cells slots (MQ below (zQ D K ρ n0 σ0 A Q) args s mc ms A) (F0 m (pc) ls (.long (Int64.ofInt x) :: S.map (rv σ ρ)))
  rw [show Int64.ofInt (w64 (-x)) = -Int64.ofInt x from (ofInt_w64 _).trans (Int64.ofInt_neg x)] at h
  exact lv_lneg hK.1.1.1 hK.1.1.2.1 hd h

theorem i32_64 {z : Int} (h : i32 z) : i64 z := by unfold i32 at h; unfold i64; omega
theorem z_i2l {x : Int} (hd : decode mi.2.1 pc = .ok (.i2l, 1)) (k : ZZ X b d mi G (pc + 1) L (vl (x) :: S) mem Q) : ZZ X b d mi G pc L (vi x :: S) mem Q := by
  intro p l e R s m args below meth c D K ρ A n0 σ0 σ H locs cells slots mc ms ls hK hS hL hl
  have h : W p l e R s m args below meth c H locs cells slots (MQ below (zQ D K ρ n0 σ0 A Q) args s mc ms A) (F0 m (pc + 1) ls (.long (Int64.ofInt x) :: S.map (rv σ ρ))) := k p l e R s m args below meth c D K ρ A n0 σ0 σ H locs cells slots mc ms ls hK (so_cons (i32_64 (so_hd hS)) (so_tl hS)) hL hl
  show W p l e R s m args below meth c H locs cells slots (MQ below (zQ D K ρ n0 σ0 A Q) args s mc ms A) (F0 m (pc) ls (.int (Int32.ofInt x) :: S.map (rv σ ρ)))
  exact lv_i2l hK.1.1.1 hK.1.1.2.1 hd (by apply Int64.toInt_inj.mp; rw [ti64 (i32_64 (so_hd hS)), Int32.toInt_toInt64, ti32 (so_hd hS)]) h

theorem z_l2iw {x : Int} (hd : decode mi.2.1 pc = .ok (.l2i, 1)) (k : ZZ X b d mi G (pc + 1) L (vi (w32 x) :: S) mem Q) : ZZ X b d mi G pc L (vl x :: S) mem Q := by
  intro p l e R s m args below meth c D K ρ A n0 σ0 σ H locs cells slots mc ms ls hK hS hL hl
  have h : W p l e R s m args below meth c H locs cells slots (MQ below (zQ D K ρ n0 σ0 A Q) args s mc ms A) (F0 m (pc + 1) ls (.int (Int32.ofInt (w32 x)) :: S.map (rv σ ρ))) := k p l e R s m args below meth c D K ρ A n0 σ0 σ H locs cells slots mc ms ls hK (so_cons (w32_ok _) (so_tl hS)) hL hl
  show W p l e R s m args below meth c H locs cells slots (MQ below (zQ D K ρ n0 σ0 A Q) args s mc ms A) (F0 m (pc) ls (.long (Int64.ofInt x) :: S.map (rv σ ρ)))
  exact lv_l2i hK.1.1.1 hK.1.1.2.1 hd (by apply Int32.toInt_inj.mp; rw [ti32 (w32_ok _), Int64.toInt_toInt32, ti64 (so_hd hS)]; rfl) h

theorem z_l2i {x : Int} (hd : decode mi.2.1 pc = .ok (.l2i, 1)) (hr : i32 x) (k : ZZ X b d mi G (pc + 1) L (vi x :: S) mem Q) : ZZ X b d mi G pc L (vl x :: S) mem Q := z_l2iw hd (by rw [w32_id hr]; exact k)
def lcmpV (x y : Int) : Int := if y < x then 1 else if x = y then 0 else -1
theorem lcmpV_ok (x y : Int) : i32 (lcmpV x y) := by
  unfold lcmpV i32
  split
  · omega
  · split <;> omega
theorem z_lcmp {x y : Int} (hd : decode mi.2.1 pc = .ok (.lcmp, 1)) (k : ZZ X b d mi G (pc + 1) L (vi (lcmpV x y) :: S) mem Q) : ZZ X b d mi G pc L (vl y :: vl x :: S) mem Q := by
  intro p l e R s m args below meth c D K ρ A n0 σ0 σ H locs cells slots mc ms ls hK hS hL hl
  have h : W p l e R s m args below meth c H locs cells slots (MQ below (zQ D K ρ n0 σ0 A Q) args s mc ms A) (F0 m (pc + 1) ls (.int (Int32.ofInt (lcmpV x y)) :: S.map (rv σ ρ))) := k p l e R s m args below meth c D K ρ A n0 σ0 σ H locs cells slots mc ms ls hK (so_cons (lcmpV_ok _ _) (so_tl (so_tl hS))) hL hl
  show W p l e R s m args below meth c H locs cells slots (MQ below (zQ D K ρ n0 σ0 A Q) args s mc ms A) (F0 m (pc) ls (.long (Int64.ofInt y) :: .long (Int64.ofInt x) :: S.map (rv σ ρ)))
  have hx : i64 x := so_hd (so_tl hS)
  have hy : i64 y := so_hd hS
  refine W.lcmp hK.1.1.1 hK.1.1.2.1 hd ?_
  rw [show lg_cmp (Int64.ofInt x) (Int64.ofInt y) = Int32.ofInt (lcmpV x y) from ?_]
  · exact h
  · unfold lg_cmp lcmpV
    have e1 : (Int64.ofInt x > Int64.ofInt y) ↔ y < x := by
      show Int64.ofInt y < Int64.ofInt x ↔ _
      rw [Int64.lt_iff_toInt_lt, ti64 hx, ti64 hy]
    have e2 : (Int64.ofInt x = Int64.ofInt y) ↔ x = y := by
      rw [← Int64.toInt_inj, ti64 hx, ti64 hy]
    by_cases c1 : y < x
    · rw [if_pos (e1.mpr c1), if_pos c1]; rfl
    · rw [if_neg (fun q => c1 (e1.mp q)), if_neg c1]
      by_cases c2 : x = y
      · rw [if_pos (e2.mpr c2), if_pos c2]; rfl
      · rw [if_neg (fun q => c2 (e2.mp q)), if_neg c2]; rfl

theorem z_iconst {n : Int} (hd : decode mi.2.1 pc = .ok (.iconst n, 1)) (hz : i32 n) (k : ZZ X b d mi G (pc + 1) L (vi n :: S) mem Q) : ZZ X b d mi G pc L S mem Q := by
  intro p l e R s m args below meth c D K ρ A n0 σ0 σ H locs cells slots mc ms ls hK hS hL hl
  have h : W p l e R s m args below meth c H locs cells slots (MQ below (zQ D K ρ n0 σ0 A Q) args s mc ms A) (F0 m (pc + 1) ls (.int (Int32.ofInt n) :: S.map (rv σ ρ))) := k p l e R s m args below meth c D K ρ A n0 σ0 σ H locs cells slots mc ms ls hK (so_cons hz hS) hL hl
  exact lv_iconst hK.1.1.1 hK.1.1.2.1 hd rfl h
theorem z_bipush {n : Int} (hd : decode mi.2.1 pc = .ok (.bipush n, 2)) (hz : -128 ≤ n ∧ n < 128) (k : ZZ X b d mi G (pc + 2) L (vi n :: S) mem Q) : ZZ X b d mi G pc L S mem Q := by
  intro p l e R s m args below meth c D K ρ A n0 σ0 σ H locs cells slots mc ms ls hK hS hL hl
  have h : W p l e R s m args below meth c H locs cells slots (MQ below (zQ D K ρ n0 σ0 A Q) args s mc ms A) (F0 m (pc + 2) ls (.int (Int32.ofInt n) :: S.map (rv σ ρ))) := k p l e R s m args below meth c D K ρ A n0 σ0 σ H locs cells slots mc ms ls hK (so_cons (show i32 n by unfold i32; omega) hS) hL hl
  refine lv_bipush hK.1.1.1 hK.1.1.2.1 hd ?_ h
  apply Int32.toInt_inj.mp
  rw [Int8.toInt_toInt32, Int8.toInt_ofInt_of_le (by omega) (by omega), ti32 (by unfold i32; omega)]
theorem z_sipush {n : Int} (hd : decode mi.2.1 pc = .ok (.sipush n, 3)) (hz : -32768 ≤ n ∧ n < 32768) (k : ZZ X b d mi G (pc + 3) L (vi n :: S) mem Q) : ZZ X b d mi G pc L S mem Q := by
  intro p l e R s m args below meth c D K ρ A n0 σ0 σ H locs cells slots mc ms ls hK hS hL hl
  have h : W p l e R s m args below meth c H locs cells slots (MQ below (zQ D K ρ n0 σ0 A Q) args s mc ms A) (F0 m (pc + 3) ls (.int (Int32.ofInt n) :: S.map (rv σ ρ))) := k p l e R s m args below meth c D K ρ A n0 σ0 σ H locs cells slots mc ms ls hK (so_cons (show i32 n by unfold i32; omega) hS) hL hl
  refine lv_sipush hK.1.1.1 hK.1.1.2.1 hd ?_ h
  apply Int32.toInt_inj.mp
  rw [Int16.toInt_toInt32, Int16.toInt_ofInt_of_le (by omega) (by omega), ti32 (by unfold i32; omega)]
theorem z_lconst {n : Fin 2} {z : Int} (hd : decode mi.2.1 pc = .ok (.lconst n, 1)) (hz : Int64.ofNat (n : Nat) = Int64.ofInt z) (hz2 : i64 z) (k : ZZ X b d mi G (pc + 1) L (vl z :: S) mem Q) : ZZ X b d mi G pc L S mem Q := by
  intro p l e R s m args below meth c D K ρ A n0 σ0 σ H locs cells slots mc ms ls hK hS hL hl
  have h : W p l e R s m args below meth c H locs cells slots (MQ below (zQ D K ρ n0 σ0 A Q) args s mc ms A) (F0 m (pc + 1) ls (.long (Int64.ofInt z) :: S.map (rv σ ρ))) := k p l e R s m args below meth c D K ρ A n0 σ0 σ H locs cells slots mc ms ls hK (so_cons hz2 hS) hL hl
  exact lv_lconst hK.1.1.1 hK.1.1.2.1 hd hz h
theorem z_ldc {i : Nat} {v : Int32} {z : Int} (hd : decode mi.2.1 pc = .ok (.ldc i, 2)) (hw : Cond.constant mi.1.cls i v ∈ wsG) (hz : v.toInt = z) (k : ZZ X b d mi G (pc + 2) L (vi z :: S) mem Q) : ZZ X b d mi G pc L S mem Q := by
  intro p l e R s m args below meth c D K ρ A n0 σ0 σ H locs cells slots mc ms ls hK hS hL hl
  subst hz
  have h : W p l e R s m args below meth c H locs cells slots (MQ below (zQ D K ρ n0 σ0 A Q) args s mc ms A) (F0 m (pc + 2) ls (.int (Int32.ofInt v.toInt) :: S.map (rv σ ρ))) := k p l e R s m args below meth c D K ρ A n0 σ0 σ H locs cells slots mc ms ls hK (so_cons (oi32 v) hS) hL hl
  rw [oi_t] at h
  exact lv_ldc hK.1.1.1 hK.1.1.2.1 hK.1.1.2.2.2.1 (hK.1.1.2.2.2.2 _ hw) hd h
theorem z_ldc2 {i : Nat} {v : Int64} {z : Int} (hd : decode mi.2.1 pc = .ok (.ldc2_w i, 3)) (hw : Cond.constantLong mi.1.cls i v ∈ wsG) (hz : v.toInt = z) (k : ZZ X b d mi G (pc + 3) L (vl z :: S) mem Q) : ZZ X b d mi G pc L S mem Q := by
  intro p l e R s m args below meth c D K ρ A n0 σ0 σ H locs cells slots mc ms ls hK hS hL hl
  subst hz
  have h : W p l e R s m args below meth c H locs cells slots (MQ below (zQ D K ρ n0 σ0 A Q) args s mc ms A) (F0 m (pc + 3) ls (.long (Int64.ofInt v.toInt) :: S.map (rv σ ρ))) := k p l e R s m args below meth c D K ρ A n0 σ0 σ H locs cells slots mc ms ls hK (so_cons (oi64 v) hS) hL hl
  rw [ol_t] at h
  exact lv_ldc2 hK.1.1.1 hK.1.1.2.1 hK.1.1.2.2.2.1 (hK.1.1.2.2.2.2 _ hw) hd h

theorem z_iload {i : Nat} {x : Int} (hd : decode mi.2.1 pc = .ok (.iload i, 2)) (hv : L[i]? = some (vi x)) (k : ZZ X b d mi G (pc + 2) L (vi x :: S) mem Q) : ZZ X b d mi G pc L S mem Q := by
  intro p l e R s m args below meth c D K ρ A n0 σ0 σ H locs cells slots mc ms ls hK hS hL hl
  have h : W p l e R s m args below meth c H locs cells slots (MQ below (zQ D K ρ n0 σ0 A Q) args s mc ms A) (F0 m (pc + 2) ls (.int (Int32.ofInt x) :: S.map (rv σ ρ))) := k p l e R s m args below meth c D K ρ A n0 σ0 σ H locs cells slots mc ms ls hK (so_cons (hL _ (List.mem_of_getElem? hv)) hS) hL hl
  exact lv_iload hK.1.1.1 hK.1.1.2.1 hd (hl.2.2 i _ hv (by intro q; cases q)) h
theorem z_iload_n {i : Fin 4} {x : Int} (hd : decode mi.2.1 pc = .ok (.iload_n i, 1)) (hv : L[(i : Nat)]? = some (vi x)) (k : ZZ X b d mi G (pc + 1) L (vi x :: S) mem Q) : ZZ X b d mi G pc L S mem Q := by
  intro p l e R s m args below meth c D K ρ A n0 σ0 σ H locs cells slots mc ms ls hK hS hL hl
  have h : W p l e R s m args below meth c H locs cells slots (MQ below (zQ D K ρ n0 σ0 A Q) args s mc ms A) (F0 m (pc + 1) ls (.int (Int32.ofInt x) :: S.map (rv σ ρ))) := k p l e R s m args below meth c D K ρ A n0 σ0 σ H locs cells slots mc ms ls hK (so_cons (hL _ (List.mem_of_getElem? hv)) hS) hL hl
  exact lv_iload_n hK.1.1.1 hK.1.1.2.1 hd rfl (hl.2.2 _ _ hv (by intro q; cases q)) h

theorem z_lload {i : Nat} {x : Int} (hd : decode mi.2.1 pc = .ok (.lload i, 2)) (hv : L[i]? = some (vl x)) (k : ZZ X b d mi G (pc + 2) L (vl x :: S) mem Q) : ZZ X b d mi G pc L S mem Q := by
  intro p l e R s m args below meth c D K ρ A n0 σ0 σ H locs cells slots mc ms ls hK hS hL hl
  have h : W p l e R s m args below meth c H locs cells slots (MQ below (zQ D K ρ n0 σ0 A Q) args s mc ms A) (F0 m (pc + 2) ls (.long (Int64.ofInt x) :: S.map (rv σ ρ))) := k p l e R s m args below meth c D K ρ A n0 σ0 σ H locs cells slots mc ms ls hK (so_cons (hL _ (List.mem_of_getElem? hv)) hS) hL hl
  exact lv_lload hK.1.1.1 hK.1.1.2.1 hd (hl.2.2 i _ hv (by intro q; cases q)) h
theorem z_lload_n {i : Fin 4} {x : Int} (hd : decode mi.2.1 pc = .ok (.lload_n i, 1)) (hv : L[(i : Nat)]? = some (vl x)) (k : ZZ X b d mi G (pc + 1) L (vl x :: S) mem Q) : ZZ X b d mi G pc L S mem Q := by
  intro p l e R s m args below meth c D K ρ A n0 σ0 σ H locs cells slots mc ms ls hK hS hL hl
  have h : W p l e R s m args below meth c H locs cells slots (MQ below (zQ D K ρ n0 σ0 A Q) args s mc ms A) (F0 m (pc + 1) ls (.long (Int64.ofInt x) :: S.map (rv σ ρ))) := k p l e R s m args below meth c D K ρ A n0 σ0 σ H locs cells slots mc ms ls hK (so_cons (hL _ (List.mem_of_getElem? hv)) hS) hL hl
  exact lv_lload_n hK.1.1.1 hK.1.1.2.1 hd rfl (hl.2.2 _ _ hv (by intro q; cases q)) h

theorem z_aload {i : Nat} {x : Nat} (hd : decode mi.2.1 pc = .ok (.aload i, 2)) (hv : L[i]? = some (vr x)) (k : ZZ X b d mi G (pc + 2) L (vr x :: S) mem Q) : ZZ X b d mi G pc L S mem Q := by
  intro p l e R s m args below meth c D K ρ A n0 σ0 σ H locs cells slots mc ms ls hK hS hL hl
  have h : W p l e R s m args below meth c H locs cells slots (MQ below (zQ D K ρ n0 σ0 A Q) args s mc ms A) (F0 m (pc + 2) ls (.ref (σ x) :: S.map (rv σ ρ))) := k p l e R s m args below meth c D K ρ A n0 σ0 σ H locs cells slots mc ms ls hK (so_cons (hL _ (List.mem_of_getElem? hv)) hS) hL hl
  exact lv_aload hK.1.1.1 hK.1.1.2.1 hd (hl.2.2 i _ hv (by intro q; cases q)) h
theorem z_aload_n {i : Fin 4} {x : Nat} (hd : decode mi.2.1 pc = .ok (.aload_n i, 1)) (hv : L[(i : Nat)]? = some (vr x)) (k : ZZ X b d mi G (pc + 1) L (vr x :: S) mem Q) : ZZ X b d mi G pc L S mem Q := by
  intro p l e R s m args below meth c D K ρ A n0 σ0 σ H locs cells slots mc ms ls hK hS hL hl
  have h : W p l e R s m args below meth c H locs cells slots (MQ below (zQ D K ρ n0 σ0 A Q) args s mc ms A) (F0 m (pc + 1) ls (.ref (σ x) :: S.map (rv σ ρ))) := k p l e R s m args below meth c D K ρ A n0 σ0 σ H locs cells slots mc ms ls hK (so_cons (hL _ (List.mem_of_getElem? hv)) hS) hL hl
  exact lv_aload_n hK.1.1.1 hK.1.1.2.1 hd rfl (hl.2.2 _ _ hv (by intro q; cases q)) h

theorem z_sload {i : Nat} {x : Nat} (hd : decode mi.2.1 pc = .ok (.aload i, 2)) (hv : L[i]? = some (vc x)) (k : ZZ X b d mi G (pc + 2) L (vc x :: S) mem Q) : ZZ X b d mi G pc L S mem Q := by
  intro p l e R s m args below meth c D K ρ A n0 σ0 σ H locs cells slots mc ms ls hK hS hL hl
  have h : W p l e R s m args below meth c H locs cells slots (MQ below (zQ D K ρ n0 σ0 A Q) args s mc ms A) (F0 m (pc + 2) ls (.ref (ρ x) :: S.map (rv σ ρ))) := k p l e R s m args below meth c D K ρ A n0 σ0 σ H locs cells slots mc ms ls hK (so_cons (hL _ (List.mem_of_getElem? hv)) hS) hL hl
  exact lv_aload hK.1.1.1 hK.1.1.2.1 hd (hl.2.2 i _ hv (by intro q; cases q)) h
theorem z_sload_n {i : Fin 4} {x : Nat} (hd : decode mi.2.1 pc = .ok (.aload_n i, 1)) (hv : L[(i : Nat)]? = some (vc x)) (k : ZZ X b d mi G (pc + 1) L (vc x :: S) mem Q) : ZZ X b d mi G pc L S mem Q := by
  intro p l e R s m args below meth c D K ρ A n0 σ0 σ H locs cells slots mc ms ls hK hS hL hl
  have h : W p l e R s m args below meth c H locs cells slots (MQ below (zQ D K ρ n0 σ0 A Q) args s mc ms A) (F0 m (pc + 1) ls (.ref (ρ x) :: S.map (rv σ ρ))) := k p l e R s m args below meth c D K ρ A n0 σ0 σ H locs cells slots mc ms ls hK (so_cons (hL _ (List.mem_of_getElem? hv)) hS) hL hl
  exact lv_aload_n hK.1.1.1 hK.1.1.2.1 hd rfl (hl.2.2 _ _ hv (by intro q; cases q)) h

/-- the slot ahead of i holds no long that is still listed -/
def okst (L : List VV) (i : Nat) : Bool := match i with
  | 0 => true
  | j + 1 => match L[j]? with
    | some (.inr (.inl _)) => false
    | _ => true
def asl (σ ρ : Nat → Nat) (L : List VV) : List (Nat × Value) := (List.range L.length).filterMap (fun i => match (L[i]? : Option VV) with
  | some (.inr (.inr (.inr (.inr _)))) => none
  | some v => some (i, rv σ ρ v)
  | none => none)
theorem asl_mem {σ ρ : Nat → Nat} {L : List VV} {i : Nat} {v : VV} (h : L[i]? = some v) (hv : v ≠ vd) : (i, rv σ ρ v) ∈ asl σ ρ L := by
  refine List.mem_filterMap.mpr ⟨i, List.mem_range.mpr (List.getElem?_eq_some_iff.mp h).1, ?_⟩
  rw [h]
  rcases v with z | z | a | j | u
  · rfl
  · rfl
  · rfl
  · rfl
  · exact absurd rfl hv
theorem asl_has {ls : Array Slot} {nL : Nat} {σ ρ : Nat → Nat} {L : List VV} (h : hasL ls nL σ ρ L) : lv_has ls nL (asl σ ρ L) := by
  refine ⟨h.1, h.2.1, fun q hq => ?_⟩
  obtain ⟨i, -, hi⟩ := List.mem_filterMap.mp hq
  cases hv : L[i]? with
  | none => rw [hv] at hi; cases hi
  | some v =>
    rw [hv] at hi
    rcases v with z | z | a | j | u
    · cases hi; exact h.2.2 i _ hv (by intro q; cases q)
    · cases hi; exact h.2.2 i _ hv (by intro q; cases q)
    · cases hi; exact h.2.2 i _ hv (by intro q; cases q)
    · cases hi; exact h.2.2 i _ hv (by intro q; cases q)
    · cases hi
theorem cat_rv {σ ρ : Nat → Nat} {v : VV} (h : (rv σ ρ v).category = 2) : ∃ z, v = vl z := by
  rcases v with z | z | a | j | u
  · cases h
  · exact ⟨z, rfl⟩
  · cases h
  · cases h
  · cases h
theorem okst_cat {L : List VV} {i j : Nat} {v : VV} {σ ρ : Nat → Nat} (h : okst L i = true) (hj : L[j]? = some v) (hij : j + 1 = i) : ¬ (rv σ ρ v).category = 2 := by
  intro hc
  obtain ⟨z, rfl⟩ := cat_rv hc
  subst hij
  simp [okst, hj] at h
/-- a word is stored -/
theorem hasL_st1 {ls' : Array Slot} {nL : Nat} {σ ρ : Nat → Nat} {L : List VV} {i : Nat} {v : VV} (hok : okst L i = true) (h' : lv_has ls' nL ((i, rv σ ρ v) :: (asl σ ρ L).filter (fun q => !(q.1 == i) && !(q.1 + 1 == i && q.2.category == 2)))) : hasL ls' nL σ ρ (L.set i v) := by
  refine ⟨h'.1, h'.2.1, fun j w hj hw => ?_⟩
  rw [List.getElem?_set] at hj
  by_cases e : i = j
  · subst e
    rw [if_pos rfl] at hj
    split at hj
    · cases hj
      exact h'.2.2 _ List.mem_cons_self
    · cases hj
  · rw [if_neg e] at hj
    refine h'.2.2 (j, rv σ ρ w) (List.mem_cons_of_mem _ (List.mem_filter.mpr ⟨asl_mem hj hw, ?_⟩))
    have h1 : (j == i) = false := by simp; omega
    by_cases h2 : j + 1 = i
    · have := okst_cat (σ := σ) (ρ := ρ) hok hj h2
      simp [h1, this]
    · simp [h1, h2]
/-- a long is stored: the next slot is taken -/
theorem hasL_st2 {ls' : Array Slot} {nL : Nat} {σ ρ : Nat → Nat} {L : List VV} {i : Nat} {v : VV} (hok : okst L i = true) (h' : lv_has ls' nL ((i, rv σ ρ v) :: (asl σ ρ L).filter (fun q => !(q.1 == i) && (!(q.1 == i + 1) && !(q.1 + 1 == i && q.2.category == 2))))) : hasL ls' nL σ ρ ((L.set i v).set (i + 1) vd) := by
  refine ⟨h'.1, h'.2.1, fun j w hj hw => ?_⟩
  rw [List.getElem?_set] at hj
  by_cases e1 : i + 1 = j
  · rw [if_pos e1] at hj
    split at hj
    · cases hj; exact absurd rfl hw
    · cases hj
  · rw [if_neg e1, List.getElem?_set] at hj
    by_cases e : i = j
    · subst e
      rw [if_pos rfl] at hj
      split at hj
      · cases hj
        exact h'.2.2 _ List.mem_cons_self
      · cases hj
    · rw [if_neg e] at hj
      refine h'.2.2 (j, rv σ ρ w) (List.mem_cons_of_mem _ (List.mem_filter.mpr ⟨asl_mem hj hw, ?_⟩))
      have h1 : (j == i) = false := by simp; omega
      have h3 : (j == i + 1) = false := by simp; omega
      by_cases h2 : j + 1 = i
      · have := okst_cat (σ := σ) (ρ := ρ) hok hj h2
        simp [h1, h3, this]
      · simp [h1, h3, h2]
theorem lo_set {n : Nat} {L : List VV} {i : Nat} {v : VV} (hL : ∀ x ∈ L, vok n x) (hv : vok n v) : ∀ x ∈ L.set i v, vok n x := by
  intro x hx
  rcases List.mem_or_eq_of_mem_set hx with h | h
  · exact hL x h
  · exact h ▸ hv
/-- a local that is no longer spoken of -/
theorem z_kill (i : Nat) (k : ZZ X b d mi G pc (L.set i vd) S mem Q) : ZZ X b d mi G pc L S mem Q := by
  intro p l e R s m args below meth c D K ρ A n0 σ0 σ H locs cells slots mc ms ls hK hS hL hl
  refine k p l e R s m args below meth c D K ρ A n0 σ0 σ H locs cells slots mc ms ls hK hS (lo_set hL trivial) ⟨hl.1, hl.2.1, fun j w hj hw => ?_⟩
  rw [List.getElem?_set] at hj
  by_cases e : i = j
  · subst e
    rw [if_pos rfl] at hj
    split at hj
    · cases hj; exact absurd rfl hw
    · cases hj
  · rw [if_neg e] at hj
    exact hl.2.2 j w hj hw

theorem z_istore {i : Nat} {x : Int} (hd : decode mi.2.1 pc = .ok (.istore i, 2)) (hn : i < mi.2.2.1) (hok : okst L i = true) (k : ZZ X b d mi G (pc + 2) (L.set i (vi x)) S mem Q) : ZZ X b d mi G pc L (vi x :: S) mem Q := by
  intro p l e R s m args below meth c D K ρ A n0 σ0 σ H locs cells slots mc ms ls hK hS hL hl
  show W p l e R s m args below meth c H locs cells slots (MQ below (zQ D K ρ n0 σ0 A Q) args s mc ms A) (F0 m (pc) ls (.int (Int32.ofInt x) :: S.map (rv σ ρ)))
  refine lv_istore hK.1.1.1 hK.1.1.2.1 hd (asl_has hl) hn rfl (fun ls' hl' => ?_)
  exact k p l e R s m args below meth c D K ρ A n0 σ0 σ H locs cells slots mc ms ls' hK (so_tl hS) (lo_set hL (so_hd hS)) (hasL_st1 (v := vi x) hok hl')
theorem z_istore_n {i : Fin 4} {x : Int} (hd : decode mi.2.1 pc = .ok (.istore_n i, 1)) (hn : (i : Nat) < mi.2.2.1) (hok : okst L i = true) (k : ZZ X b d mi G (pc + 1) (L.set (i : Nat) (vi x)) S mem Q) : ZZ X b d mi G pc L (vi x :: S) mem Q := by
  intro p l e R s m args below meth c D K ρ A n0 σ0 σ H locs cells slots mc ms ls hK hS hL hl
  show W p l e R s m args below meth c H locs cells slots (MQ below (zQ D K ρ n0 σ0 A Q) args s mc ms A) (F0 m (pc) ls (.int (Int32.ofInt x) :: S.map (rv σ ρ)))
  refine lv_istore_n hK.1.1.1 hK.1.1.2.1 hd rfl (asl_has hl) hn rfl (fun ls' hl' => ?_)
  exact k p l e R s m args below meth c D K ρ A n0 σ0 σ H locs cells slots mc ms ls' hK (so_tl hS) (lo_set hL (so_hd hS)) (hasL_st1 (v := vi x) hok hl')

theorem z_astore {i : Nat} {x : Nat} (hd : decode mi.2.1 pc = .ok (.astore i, 2)) (hn : i < mi.2.2.1) (hok : okst L i = true) (k : ZZ X b d mi G (pc + 2) (L.set i (vr x)) S mem Q) : ZZ X b d mi G pc L (vr x :: S) mem Q := by
  intro p l e R s m args below meth c D K ρ A n0 σ0 σ H locs cells slots mc ms ls hK hS hL hl
  show W p l e R s m args below meth c H locs cells slots (MQ below (zQ D K ρ n0 σ0 A Q) args s mc ms A) (F0 m (pc) ls (.ref (σ x) :: S.map (rv σ ρ)))
  refine lv_astore hK.1.1.1 hK.1.1.2.1 hd (asl_has hl) hn rfl (fun ls' hl' => ?_)
  exact k p l e R s m args below meth c D K ρ A n0 σ0 σ H locs cells slots mc ms ls' hK (so_tl hS) (lo_set hL (so_hd hS)) (hasL_st1 (v := vr x) hok hl')
theorem z_astore_n {i : Fin 4} {x : Nat} (hd : decode mi.2.1 pc = .ok (.astore_n i, 1)) (hn : (i : Nat) < mi.2.2.1) (hok : okst L i = true) (k : ZZ X b d mi G (pc + 1) (L.set (i : Nat) (vr x)) S mem Q) : ZZ X b d mi G pc L (vr x :: S) mem Q := by
  intro p l e R s m args below meth c D K ρ A n0 σ0 σ H locs cells slots mc ms ls hK hS hL hl
  show W p l e R s m args below meth c H locs cells slots (MQ below (zQ D K ρ n0 σ0 A Q) args s mc ms A) (F0 m (pc) ls (.ref (σ x) :: S.map (rv σ ρ)))
  refine lv_astore_n hK.1.1.1 hK.1.1.2.1 hd rfl (asl_has hl) hn rfl (fun ls' hl' => ?_)
  exact k p l e R s m args below meth c D K ρ A n0 σ0 σ H locs cells slots mc ms ls' hK (so_tl hS) (lo_set hL (so_hd hS)) (hasL_st1 (v := vr x) hok hl')

theorem z_sstore {i : Nat} {x : Nat} (hd : decode mi.2.1 pc = .ok (.astore i, 2)) (hn : i < mi.2.2.1) (hok : okst L i = true) (k : ZZ X b d mi G (pc + 2) (L.set i (vc x)) S mem Q) : ZZ X b d mi G pc L (vc x :: S) mem Q := by
  intro p l e R s m args below meth c D K ρ A n0 σ0 σ H locs cells slots mc ms ls hK hS hL hl
  show W p l e R s m args below meth c H locs cells slots (MQ below (zQ D K ρ n0 σ0 A Q) args s mc ms A) (F0 m (pc) ls (.ref (ρ x) :: S.map (rv σ ρ)))
  refine lv_astore hK.1.1.1 hK.1.1.2.1 hd (asl_has hl) hn rfl (fun ls' hl' => ?_)
  exact k p l e R s m args below meth c D K ρ A n0 σ0 σ H locs cells slots mc ms ls' hK (so_tl hS) (lo_set hL (so_hd hS)) (hasL_st1 (v := vc x) hok hl')
theorem z_sstore_n {i : Fin 4} {x : Nat} (hd : decode mi.2.1 pc = .ok (.astore_n i, 1)) (hn : (i : Nat) < mi.2.2.1) (hok : okst L i = true) (k : ZZ X b d mi G (pc + 1) (L.set (i : Nat) (vc x)) S mem Q) : ZZ X b d mi G pc L (vc x :: S) mem Q := by
  intro p l e R s m args below meth c D K ρ A n0 σ0 σ H locs cells slots mc ms ls hK hS hL hl
  show W p l e R s m args below meth c H locs cells slots (MQ below (zQ D K ρ n0 σ0 A Q) args s mc ms A) (F0 m (pc) ls (.ref (ρ x) :: S.map (rv σ ρ)))
  refine lv_astore_n hK.1.1.1 hK.1.1.2.1 hd rfl (asl_has hl) hn rfl (fun ls' hl' => ?_)
  exact k p l e R s m args below meth c D K ρ A n0 σ0 σ H locs cells slots mc ms ls' hK (so_tl hS) (lo_set hL (so_hd hS)) (hasL_st1 (v := vc x) hok hl')

theorem z_lstore {i : Nat} {x : Int} (hd : decode mi.2.1 pc = .ok (.lstore i, 2)) (hn : i + 1 < mi.2.2.1) (hok : okst L i = true) (k : ZZ X b d mi G (pc + 2) ((L.set i (vl x)).set (i + 1) vd) S mem Q) : ZZ X b d mi G pc L (vl x :: S) mem Q := by
  intro p l e R s m args below meth c D K ρ A n0 σ0 σ H locs cells slots mc ms ls hK hS hL hl
  show W p l e R s m args below meth c H locs cells slots (MQ below (zQ D K ρ n0 σ0 A Q) args s mc ms A) (F0 m (pc) ls (.long (Int64.ofInt x) :: S.map (rv σ ρ)))
  refine lv_lstore hK.1.1.1 hK.1.1.2.1 hd (asl_has hl) hn rfl (fun ls' hl' => ?_)
  exact k p l e R s m args below meth c D K ρ A n0 σ0 σ H locs cells slots mc ms ls' hK (so_tl hS) (lo_set (lo_set hL (so_hd hS)) trivial) (hasL_st2 (v := vl x) hok hl')
theorem z_lstore_n {i : Fin 4} {x : Int} (hd : decode mi.2.1 pc = .ok (.lstore_n i, 1)) (hn : (i : Nat) + 1 < mi.2.2.1) (hok : okst L i = true) (k : ZZ X b d mi G (pc + 1) ((L.set (i : Nat) (vl x)).set ((i : Nat) + 1) vd) S mem Q) : ZZ X b d mi G pc L (vl x :: S) mem Q := by
  intro p l e R s m args below meth c D K ρ A n0 σ0 σ H locs cells slots mc ms ls hK hS hL hl
  show W p l e R s m args below meth c H locs cells slots (MQ below (zQ D K ρ n0 σ0 A Q) args s mc ms A) (F0 m (pc) ls (.long (Int64.ofInt x) :: S.map (rv σ ρ)))
  refine lv_lstore_n hK.1.1.1 hK.1.1.2.1 hd rfl (asl_has hl) hn rfl (fun ls' hl' => ?_)
  exact k p l e R s m args below meth c D K ρ A n0 σ0 σ H locs cells slots mc ms ls' hK (so_tl hS) (lo_set (lo_set hL (so_hd hS)) trivial) (hasL_st2 (v := vl x) hok hl')

theorem asl_idx {σ ρ : Nat → Nat} {L : List VV} {i : Nat} {v : VV} (h : L[i]? = some v) (hv : v ≠ vd) : ∃ k : Nat, (asl σ ρ L)[k]? = some (i, rv σ ρ v) := List.getElem?_of_mem (asl_mem h hv)
theorem z_iincw {i : Nat} {n x : Int} (hd : decode mi.2.1 pc = .ok (.iinc i n, 3)) (hv : L[i]? = some (vi x)) (hn : i < mi.2.2.1) (hok : okst L i = true) (k : ZZ X b d mi G (pc + 3) (L.set i (vi (w32 (x + n)))) S mem Q) : ZZ X b d mi G pc L S mem Q := by
  intro p l e R s m args below meth c D K ρ A n0 σ0 σ H locs cells slots mc ms ls hK hS hL hl
  obtain ⟨q, hq⟩ := asl_idx (σ := σ) (ρ := ρ) hv (by intro q; cases q)
  refine lv_iinc (v := Int32.ofInt (w32 (x + n))) hK.1.1.1 hK.1.1.2.1 hd (asl_has hl) (k := q) hq (by rw [ofInt_w32, Int32.ofInt_add]) hn rfl (fun ls' hl' => ?_)
  exact k p l e R s m args below meth c D K ρ A n0 σ0 σ H locs cells slots mc ms ls' hK hS (lo_set hL (w32_ok _)) (hasL_st1 (v := vi (w32 (x + n))) hok hl')
theorem z_iinc {i : Nat} {n x : Int} (hd : decode mi.2.1 pc = .ok (.iinc i n, 3)) (hv : L[i]? = some (vi x)) (hr : i32 (x + n)) (hn : i < mi.2.2.1) (hok : okst L i = true) (k : ZZ X b d mi G (pc + 3) (L.set i (vi (x + n))) S mem Q) : ZZ X b d mi G pc L S mem Q := z_iincw hd hv hn hok (by rw [w32_id hr]; exact k)

theorem cat1 {σ ρ : Nat → Nat} {v : VV} (h : ∀ z, v ≠ vl z) : (rv σ ρ v).category = 1 := by
  rcases lv_cat (rv σ ρ v) with q | q
  · exact q
  · obtain ⟨z, hz⟩ := cat_rv q
    exact absurd hz (h z)
theorem z_dup {v : VV} (hd : decode mi.2.1 pc = .ok (.dup, 1)) (hv : ∀ z, v ≠ vl z) (k : ZZ X b d mi G (pc + 1) L (v :: v :: S) mem Q) : ZZ X b d mi G pc L (v :: S) mem Q := by
  intro p l e R s m args below meth c D K ρ A n0 σ0 σ H locs cells slots mc ms ls hK hS hL hl
  have h : W p l e R s m args below meth c H locs cells slots (MQ below (zQ D K ρ n0 σ0 A Q) args s mc ms A) (F0 m (pc + 1) ls (rv σ ρ v :: rv σ ρ v :: S.map (rv σ ρ))) := k p l e R s m args below meth c D K ρ A n0 σ0 σ H locs cells slots mc ms ls hK (so_cons (so_hd hS) hS) hL hl
  exact lv_dup hK.1.1.1 hK.1.1.2.1 hd (cat1 hv) h
theorem z_pop {v : VV} (hd : decode mi.2.1 pc = .ok (.pop, 1)) (hv : ∀ z, v ≠ vl z) (k : ZZ X b d mi G (pc + 1) L S mem Q) : ZZ X b d mi G pc L (v :: S) mem Q := by
  intro p l e R s m args below meth c D K ρ A n0 σ0 σ H locs cells slots mc ms ls hK hS hL hl
  have h : W p l e R s m args below meth c H locs cells slots (MQ below (zQ D K ρ n0 σ0 A Q) args s mc ms A) (F0 m (pc + 1) ls (S.map (rv σ ρ))) := k p l e R s m args below meth c D K ρ A n0 σ0 σ H locs cells slots mc ms ls hK (so_tl hS) hL hl
  exact lv_pop hK.1.1.1 hK.1.1.2.1 hd (cat1 hv) h
theorem z_dup2 {v w : VV} (hd : decode mi.2.1 pc = .ok (.dup2, 1)) (hv : ∀ z, v ≠ vl z) (hw : ∀ z, w ≠ vl z) (k : ZZ X b d mi G (pc + 1) L (v :: w :: v :: w :: S) mem Q) : ZZ X b d mi G pc L (v :: w :: S) mem Q := by
  intro p l e R s m args below meth c D K ρ A n0 σ0 σ H locs cells slots mc ms ls hK hS hL hl
  have h : W p l e R s m args below meth c H locs cells slots (MQ below (zQ D K ρ n0 σ0 A Q) args s mc ms A) (F0 m (pc + 1) ls (rv σ ρ v :: rv σ ρ w :: rv σ ρ v :: rv σ ρ w :: S.map (rv σ ρ))) := k p l e R s m args below meth c D K ρ A n0 σ0 σ H locs cells slots mc ms ls hK (so_cons (so_hd hS) (so_cons (so_hd (so_tl hS)) hS)) hL hl
  exact lv_dup2_11 hK.1.1.1 hK.1.1.2.1 hd (cat1 hv) (cat1 hw) h

theorem z_icmp_eq {x y off : Int} (tgt : Nat) (hd : decode mi.2.1 pc = .ok (.if_icmp .eq off, 3)) (ht : (pc : Int) + off = (tgt : Int)) (kt : x = y → ZZ X b d mi G tgt L S mem Q) (kf : ¬ (x = y) → ZZ X b d mi G (pc + 3) L S mem Q) : ZZ X b d mi G pc L (vi y :: vi x :: S) mem Q := by
  intro p l e R s m args below meth c D K ρ A n0 σ0 σ H locs cells slots mc ms ls hK hS hL hl
  show W p l e R s m args below meth c H locs cells slots (MQ below (zQ D K ρ n0 σ0 A Q) args s mc ms A) (F0 m (pc) ls (.int (Int32.ofInt y) :: .int (Int32.ofInt x) :: S.map (rv σ ρ)))
  have hx : i32 x := so_hd (so_tl hS)
  have hy : i32 y := so_hd hS
  have hiff : (Int32.ofInt x = Int32.ofInt y) ↔ (x = y) := by rw [← Int32.toInt_inj, ti32 hx, ti32 hy]
  exact lv_icmp_eq hK.1.1.1 hK.1.1.2.1 hd ht (fun q => kt (hiff.mp q) p l e R s m args below meth c D K ρ A n0 σ0 σ H locs cells slots mc ms ls hK (so_tl (so_tl hS)) hL hl) (fun q => kf (fun z => q (hiff.mpr z)) p l e R s m args below meth c D K ρ A n0 σ0 σ H locs cells slots mc ms ls hK (so_tl (so_tl hS)) hL hl)

theorem z_if_eq {x off : Int} (tgt : Nat) (hd : decode mi.2.1 pc = .ok (.ifCond .eq off, 3)) (ht : (pc : Int) + off = (tgt : Int)) (kt : x = 0 → ZZ X b d mi G tgt L S mem Q) (kf : ¬ (x = 0) → ZZ X b d mi G (pc + 3) L S mem Q) : ZZ X b d mi G pc L (vi x :: S) mem Q := by
  intro p l e R s m args below meth c D K ρ A n0 σ0 σ H locs cells slots mc ms ls hK hS hL hl
  show W p l e R s m args below meth c H locs cells slots (MQ below (zQ D K ρ n0 σ0 A Q) args s mc ms A) (F0 m (pc) ls (.int (Int32.ofInt x) :: S.map (rv σ ρ)))
  have hx : i32 x := so_hd hS
  have hiff : (Int32.ofInt x = (0 : Int32)) ↔ (x = 0) := by rw [← Int32.toInt_inj, ti32 hx, Int32.toInt_zero]
  exact lv_if_eq hK.1.1.1 hK.1.1.2.1 hd ht (fun q => kt (hiff.mp q) p l e R s m args below meth c D K ρ A n0 σ0 σ H locs cells slots mc ms ls hK (so_tl hS) hL hl) (fun q => kf (fun z => q (hiff.mpr z)) p l e R s m args below meth c D K ρ A n0 σ0 σ H locs cells slots mc ms ls hK (so_tl hS) hL hl)

theorem z_icmp_ne {x y off : Int} (tgt : Nat) (hd : decode mi.2.1 pc = .ok (.if_icmp .ne off, 3)) (ht : (pc : Int) + off = (tgt : Int)) (kt : ¬ x = y → ZZ X b d mi G tgt L S mem Q) (kf : x = y → ZZ X b d mi G (pc + 3) L S mem Q) : ZZ X b d mi G pc L (vi y :: vi x :: S) mem Q := by
  intro p l e R s m args below meth c D K ρ A n0 σ0 σ H locs cells slots mc ms ls hK hS hL hl
  show W p l e R s m args below meth c H locs cells slots (MQ below (zQ D K ρ n0 σ0 A Q) args s mc ms A) (F0 m (pc) ls (.int (Int32.ofInt y) :: .int (Int32.ofInt x) :: S.map (rv σ ρ)))
  have hx : i32 x := so_hd (so_tl hS)
  have hy : i32 y := so_hd hS
  have hiff : (¬ Int32.ofInt x = Int32.ofInt y) ↔ (¬ x = y) := by rw [← Int32.toInt_inj, ti32 hx, ti32 hy]
  exact lv_icmp_ne hK.1.1.1 hK.1.1.2.1 hd ht (fun q => kt (hiff.mp q) p l e R s m args below meth c D K ρ A n0 σ0 σ H locs cells slots mc ms ls hK (so_tl (so_tl hS)) hL hl) (fun q => kf (Classical.byContradiction fun w => hiff.mpr w q) p l e R s m args below meth c D K ρ A n0 σ0 σ H locs cells slots mc ms ls hK (so_tl (so_tl hS)) hL hl)

theorem z_if_ne {x off : Int} (tgt : Nat) (hd : decode mi.2.1 pc = .ok (.ifCond .ne off, 3)) (ht : (pc : Int) + off = (tgt : Int)) (kt : ¬ x = 0 → ZZ X b d mi G tgt L S mem Q) (kf : x = 0 → ZZ X b d mi G (pc + 3) L S mem Q) : ZZ X b d mi G pc L (vi x :: S) mem Q := by
  intro p l e R s m args below meth c D K ρ A n0 σ0 σ H locs cells slots mc ms ls hK hS hL hl
  show W p l e R s m args below meth c H locs cells slots (MQ below (zQ D K ρ n0 σ0 A Q) args s mc ms A) (F0 m (pc) ls (.int (Int32.ofInt x) :: S.map (rv σ ρ)))
  have hx : i32 x := so_hd hS
  have hiff : (¬ Int32.ofInt x = (0 : Int32)) ↔ (¬ x = 0) := by rw [← Int32.toInt_inj, ti32 hx, Int32.toInt_zero]
  exact lv_if_ne hK.1.1.1 hK.1.1.2.1 hd ht (fun q => kt (hiff.mp q) p l e R s m args below meth c D K ρ A n0 σ0 σ H locs cells slots mc ms ls hK (so_tl hS) hL hl) (fun q => kf (Classical.byContradiction fun w => hiff.mpr w q) p l e R s m args below meth c D K ρ A n0 σ0 σ H locs cells slots mc ms ls hK (so_tl hS) hL hl)

theorem z_icmp_lt {x y off : Int} (tgt : Nat) (hd : decode mi.2.1 pc = .ok (.if_icmp .lt off, 3)) (ht : (pc : Int) + off = (tgt : Int)) (kt : x < y → ZZ X b d mi G tgt L S mem Q) (kf : ¬ (x < y) → ZZ X b d mi G (pc + 3) L S mem Q) : ZZ X b d mi G pc L (vi y :: vi x :: S) mem Q := by
  intro p l e R s m args below meth c D K ρ A n0 σ0 σ H locs cells slots mc ms ls hK hS hL hl
  show W p l e R s m args below meth c H locs cells slots (MQ below (zQ D K ρ n0 σ0 A Q) args s mc ms A) (F0 m (pc) ls (.int (Int32.ofInt y) :: .int (Int32.ofInt x) :: S.map (rv σ ρ)))
  have hx : i32 x := so_hd (so_tl hS)
  have hy : i32 y := so_hd hS
  have hiff : (Int32.ofInt x < Int32.ofInt y) ↔ (x < y) := by rw [Int32.lt_iff_toInt_lt, ti32 hx, ti32 hy]
  exact lv_icmp_lt hK.1.1.1 hK.1.1.2.1 hd ht (fun q => kt (hiff.mp q) p l e R s m args below meth c D K ρ A n0 σ0 σ H locs cells slots mc ms ls hK (so_tl (so_tl hS)) hL hl) (fun q => kf (fun z => q (hiff.mpr z)) p l e R s m args below meth c D K ρ A n0 σ0 σ H locs cells slots mc ms ls hK (so_tl (so_tl hS)) hL hl)

theorem z_if_lt {x off : Int} (tgt : Nat) (hd : decode mi.2.1 pc = .ok (.ifCond .lt off, 3)) (ht : (pc : Int) + off = (tgt : Int)) (kt : x < 0 → ZZ X b d mi G tgt L S mem Q) (kf : ¬ (x < 0) → ZZ X b d mi G (pc + 3) L S mem Q) : ZZ X b d mi G pc L (vi x :: S) mem Q := by
  intro p l e R s m args below meth c D K ρ A n0 σ0 σ H locs cells slots mc ms ls hK hS hL hl
  show W p l e R s m args below meth c H locs cells slots (MQ below (zQ D K ρ n0 σ0 A Q) args s mc ms A) (F0 m (pc) ls (.int (Int32.ofInt x) :: S.map (rv σ ρ)))
  have hx : i32 x := so_hd hS
  have hiff : (Int32.ofInt x < (0 : Int32)) ↔ (x < 0) := by rw [Int32.lt_iff_toInt_lt, ti32 hx, Int32.toInt_zero]
  exact lv_if_lt hK.1.1.1 hK.1.1.2.1 hd ht (fun q => kt (hiff.mp q) p l e R s m args below meth c D K ρ A n0 σ0 σ H locs cells slots mc ms ls hK (so_tl hS) hL hl) (fun q => kf (fun z => q (hiff.mpr z)) p l e R s m args below meth c D K ρ A n0 σ0 σ H locs cells slots mc ms ls hK (so_tl hS) hL hl)

theorem z_icmp_ge {x y off : Int} (tgt : Nat) (hd : decode mi.2.1 pc = .ok (.if_icmp .ge off, 3)) (ht : (pc : Int) + off = (tgt : Int)) (kt : y ≤ x → ZZ X b d mi G tgt L S mem Q) (kf : ¬ (y ≤ x) → ZZ X b d mi G (pc + 3) L S mem Q) : ZZ X b d mi G pc L (vi y :: vi x :: S) mem Q := by
  intro p l e R s m args below meth c D K ρ A n0 σ0 σ H locs cells slots mc ms ls hK hS hL hl
  show W p l e R s m args below meth c H locs cells slots (MQ below (zQ D K ρ n0 σ0 A Q) args s mc ms A) (F0 m (pc) ls (.int (Int32.ofInt y) :: .int (Int32.ofInt x) :: S.map (rv σ ρ)))
  have hx : i32 x := so_hd (so_tl hS)
  have hy : i32 y := so_hd hS
  have hiff : (Int32.ofInt y ≤ Int32.ofInt x) ↔ (y ≤ x) := by rw [Int32.le_iff_toInt_le, ti32 hx, ti32 hy]
  exact lv_icmp_ge hK.1.1.1 hK.1.1.2.1 hd ht (fun q => kt (hiff.mp q) p l e R s m args below meth c D K ρ A n0 σ0 σ H locs cells slots mc ms ls hK (so_tl (so_tl hS)) hL hl) (fun q => kf (fun z => q (hiff.mpr z)) p l e R s m args below meth c D K ρ A n0 σ0 σ H locs cells slots mc ms ls hK (so_tl (so_tl hS)) hL hl)

theorem z_if_ge {x off : Int} (tgt : Nat) (hd : decode mi.2.1 pc = .ok (.ifCond .ge off, 3)) (ht : (pc : Int) + off = (tgt : Int)) (kt : 0 ≤ x → ZZ X b d mi G tgt L S mem Q) (kf : ¬ (0 ≤ x) → ZZ X b d mi G (pc + 3) L S mem Q) : ZZ X b d mi G pc L (vi x :: S) mem Q := by
  intro p l e R s m args below meth c D K ρ A n0 σ0 σ H locs cells slots mc ms ls hK hS hL hl
  show W p l e R s m args below meth c H locs cells slots (MQ below (zQ D K ρ n0 σ0 A Q) args s mc ms A) (F0 m (pc) ls (.int (Int32.ofInt x) :: S.map (rv σ ρ)))
  have hx : i32 x := so_hd hS
  have hiff : ((0 : Int32) ≤ Int32.ofInt x) ↔ (0 ≤ x) := by rw [Int32.le_iff_toInt_le, ti32 hx, Int32.toInt_zero]
  exact lv_if_ge hK.1.1.1 hK.1.1.2.1 hd ht (fun q => kt (hiff.mp q) p l e R s m args below meth c D K ρ A n0 σ0 σ H locs cells slots mc ms ls hK (so_tl hS) hL hl) (fun q => kf (fun z => q (hiff.mpr z)) p l e R s m args below meth c D K ρ A n0 σ0 σ H locs cells slots mc ms ls hK (so_tl hS) hL hl)

theorem z_icmp_gt {x y off : Int} (tgt : Nat) (hd : decode mi.2.1 pc = .ok (.if_icmp .gt off, 3)) (ht : (pc : Int) + off = (tgt : Int)) (kt : y < x → ZZ X b d mi G tgt L S mem Q) (kf : ¬ (y < x) → ZZ X b d mi G (pc + 3) L S mem Q) : ZZ X b d mi G pc L (vi y :: vi x :: S) mem Q := by
  intro p l e R s m args below meth c D K ρ A n0 σ0 σ H locs cells slots mc ms ls hK hS hL hl
  show W p l e R s m args below meth c H locs cells slots (MQ below (zQ D K ρ n0 σ0 A Q) args s mc ms A) (F0 m (pc) ls (.int (Int32.ofInt y) :: .int (Int32.ofInt x) :: S.map (rv σ ρ)))
  have hx : i32 x := so_hd (so_tl hS)
  have hy : i32 y := so_hd hS
  have hiff : (Int32.ofInt y < Int32.ofInt x) ↔ (y < x) := by rw [Int32.lt_iff_toInt_lt, ti32 hx, ti32 hy]
  exact lv_icmp_gt hK.1.1.1 hK.1.1.2.1 hd ht (fun q => kt (hiff.mp q) p l e R s m args below meth c D K ρ A n0 σ0 σ H locs cells slots mc ms ls hK (so_tl (so_tl hS)) hL hl) (fun q => kf (fun z => q (hiff.mpr z)) p l e R s m args below meth c D K ρ A n0 σ0 σ H locs cells slots mc ms ls hK (so_tl (so_tl hS)) hL hl)

theorem z_if_gt {x off : Int} (tgt : Nat) (hd : decode mi.2.1 pc = .ok (.ifCond .gt off, 3)) (ht : (pc : Int) + off = (tgt : Int)) (kt : 0 < x → ZZ X b d mi G tgt L S mem Q) (kf : ¬ (0 < x) → ZZ X b d mi G (pc + 3) L S mem Q) : ZZ X b d mi G pc L (vi x :: S) mem Q := by
  intro p l e R s m args below meth c D K ρ A n0 σ0 σ H locs cells slots mc ms ls hK hS hL hl
  show W p l e R s m args below meth c H locs cells slots (MQ below (zQ D K ρ n0 σ0 A Q) args s mc ms A) (F0 m (pc) ls (.int (Int32.ofInt x) :: S.map (rv σ ρ)))
  have hx : i32 x := so_hd hS
  have hiff : ((0 : Int32) < Int32.ofInt x) ↔ (0 < x) := by rw [Int32.lt_iff_toInt_lt, ti32 hx, Int32.toInt_zero]
  exact lv_if_gt hK.1.1.1 hK.1.1.2.1 hd ht (fun q => kt (hiff.mp q) p l e R s m args below meth c D K ρ A n0 σ0 σ H locs cells slots mc ms ls hK (so_tl hS) hL hl) (fun q => kf (fun z => q (hiff.mpr z)) p l e R s m args below meth c D K ρ A n0 σ0 σ H locs cells slots mc ms ls hK (so_tl hS) hL hl)

theorem z_icmp_le {x y off : Int} (tgt : Nat) (hd : decode mi.2.1 pc = .ok (.if_icmp .le off, 3)) (ht : (pc : Int) + off = (tgt : Int)) (kt : x ≤ y → ZZ X b d mi G tgt L S mem Q) (kf : ¬ (x ≤ y) → ZZ X b d mi G (pc + 3) L S mem Q) : ZZ X b d mi G pc L (vi y :: vi x :: S) mem Q := by
  intro p l e R s m args below meth c D K ρ A n0 σ0 σ H locs cells slots mc ms ls hK hS hL hl
  show W p l e R s m args below meth c H locs cells slots (MQ below (zQ D K ρ n0 σ0 A Q) args s mc ms A) (F0 m (pc) ls (.int (Int32.ofInt y) :: .int (Int32.ofInt x) :: S.map (rv σ ρ)))
  have hx : i32 x := so_hd (so_tl hS)
  have hy : i32 y := so_hd hS
  have hiff : (Int32.ofInt x ≤ Int32.ofInt y) ↔ (x ≤ y) := by rw [Int32.le_iff_toInt_le, ti32 hx, ti32 hy]
  exact lv_icmp_le hK.1.1.1 hK.1.1.2.1 hd ht (fun q => kt (hiff.mp q) p l e R s m args below meth c D K ρ A n0 σ0 σ H locs cells slots mc ms ls hK (so_tl (so_tl hS)) hL hl) (fun q => kf (fun z => q (hiff.mpr z)) p l e R s m args below meth c D K ρ A n0 σ0 σ H locs cells slots mc ms ls hK (so_tl (so_tl hS)) hL hl)

theorem z_if_le {x off : Int} (tgt : Nat) (hd : decode mi.2.1 pc = .ok (.ifCond .le off, 3)) (ht : (pc : Int) + off = (tgt : Int)) (kt : x ≤ 0 → ZZ X b d mi G tgt L S mem Q) (kf : ¬ (x ≤ 0) → ZZ X b d mi G (pc + 3) L S mem Q) : ZZ X b d mi G pc L (vi x :: S) mem Q := by
  intro p l e R s m args below meth c D K ρ A n0 σ0 σ H locs cells slots mc ms ls hK hS hL hl
  show W p l e R s m args below meth c H locs cells slots (MQ below (zQ D K ρ n0 σ0 A Q) args s mc ms A) (F0 m (pc) ls (.int (Int32.ofInt x) :: S.map (rv σ ρ)))
  have hx : i32 x := so_hd hS
  have hiff : (Int32.ofInt x ≤ (0 : Int32)) ↔ (x ≤ 0) := by rw [Int32.le_iff_toInt_le, ti32 hx, Int32.toInt_zero]
  exact lv_if_le hK.1.1.1 hK.1.1.2.1 hd ht (fun q => kt (hiff.mp q) p l e R s m args below meth c D K ρ A n0 σ0 σ H locs cells slots mc ms ls hK (so_tl hS) hL hl) (fun q => kf (fun z => q (hiff.mpr z)) p l e R s m args below meth c D K ρ A n0 σ0 σ H locs cells slots mc ms ls hK (so_tl hS) hL hl)

theorem z_goto {off : Int} (tgt : Nat) (hd : decode mi.2.1 pc = .ok (.goto off, 3)) (ht : (pc : Int) + off = (tgt : Int)) (k : ZZ X b d mi G tgt L S mem Q) : ZZ X b d mi G pc L S mem Q := by
  intro p l e R s m args below meth c D K ρ A n0 σ0 σ H locs cells slots mc ms ls hK hS hL hl
  exact lv_goto hK.1.1.1 hK.1.1.2.1 hd ht (k p l e R s m args below meth c D K ρ A n0 σ0 σ H locs cells slots mc ms ls hK hS hL hl)
theorem z_tableOut {dflt lo hi x : Int} {offs : Array Int} {len : Nat} (tgt : Nat) (hd : decode mi.2.1 pc = .ok (.tableswitch dflt lo hi offs, len)) (h : x < lo ∨ hi < x) (ht : (pc : Int) + dflt = (tgt : Int)) (k : ZZ X b d mi G tgt L S mem Q) : ZZ X b d mi G pc L (vi x :: S) mem Q := by
  intro p l e R s m args below meth c D K ρ A n0 σ0 σ H locs cells slots mc ms ls hK hS hL hl
  show W p l e R s m args below meth c H locs cells slots (MQ below (zQ D K ρ n0 σ0 A Q) args s mc ms A) (F0 m (pc) ls (.int (Int32.ofInt x) :: S.map (rv σ ρ)))
  exact lv_tableOut hK.1.1.1 hK.1.1.2.1 hd (by rw [ti32 (so_hd hS)]; exact h) ht (k p l e R s m args below meth c D K ρ A n0 σ0 σ H locs cells slots mc ms ls hK (so_tl hS) hL hl)
theorem z_tableIn {dflt lo hi x off : Int} {offs : Array Int} {len : Nat} (tgt : Nat) (hd : decode mi.2.1 pc = .ok (.tableswitch dflt lo hi offs, len)) (h1 : ¬ x < lo) (h2 : ¬ hi < x) (ho : offs[(x - lo).toNat]? = some off) (ht : (pc : Int) + off = (tgt : Int)) (k : ZZ X b d mi G tgt L S mem Q) : ZZ X b d mi G pc L (vi x :: S) mem Q := by
  intro p l e R s m args below meth c D K ρ A n0 σ0 σ H locs cells slots mc ms ls hK hS hL hl
  show W p l e R s m args below meth c H locs cells slots (MQ below (zQ D K ρ n0 σ0 A Q) args s mc ms A) (F0 m (pc) ls (.int (Int32.ofInt x) :: S.map (rv σ ρ)))
  have hxx : (Int32.ofInt x).toInt = x := ti32 (so_hd hS)
  exact lv_tableIn hK.1.1.1 hK.1.1.2.1 hd (by rw [hxx]; exact h1) (by rw [hxx]; exact h2) (by rw [hxx]; exact ho) ht (k p l e R s m args below meth c D K ρ A n0 σ0 σ H locs cells slots mc ms ls hK (so_tl hS) hL hl)

theorem ZZ.mono {Q' : zPost} (h : ∀ G v m, Q' G v m → Q G v m) (k : ZZ X b d mi G pc L S mem Q') : ZZ X b d mi G pc L S mem Q := by
  intro p l e R s m args below meth c D K ρ A n0 σ0 σ H locs cells slots mc ms ls hK hS hL hl T hT Xs
  obtain ⟨t, a1, o, b1, b2, ⟨⟨G', σ', v, mem', c1, c2, c3⟩, b4⟩, b5⟩ := k p l e R s m args below meth c D K ρ A n0 σ0 σ H locs cells slots mc ms ls hK hS hL hl T hT Xs
  exact ⟨t, a1, o, b1, b2, ⟨⟨G', σ', v, mem', c1, h _ _ _ c2, c3⟩, b4⟩, b5⟩
theorem ZZ.eqm {mem' : Mem} (h : mem = mem') (k : ZZ X b d mi G pc L S mem' Q) : ZZ X b d mi G pc L S mem Q := h ▸ k
theorem ZZ.eqL {L' : List VV} (h : L = L') (k : ZZ X b d mi G pc L' S mem Q) : ZZ X b d mi G pc L S mem Q := h ▸ k
theorem ZZ.eqS {S' : List VV} (h : S = S') (k : ZZ X b d mi G pc L S' mem Q) : ZZ X b d mi G pc L S mem Q := h ▸ k
/-- what the frame itself says of its values -/
theorem ZZ.know (k : (∀ v ∈ S, vok G.length v) → (∀ v ∈ L, vok G.length v) → mok G mem → ZZ X b d mi G pc L S mem Q) : ZZ X b d mi G pc L S mem Q := by
  intro p l e R s m args below meth c D K ρ A n0 σ0 σ H locs cells slots mc ms ls hK hS hL hl
  exact k hS hL hK.2.2.2.2.2.2.2.2.2.2.2 p l e R s m args below meth c D K ρ A n0 σ0 σ H locs cells slots mc ms ls hK hS hL hl

end RulesA
