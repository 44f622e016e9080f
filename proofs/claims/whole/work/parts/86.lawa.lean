/-! ===== the law's calls (laid by gen86.py) ===== -/
abbrev mL_law : MI := (yL_law, (cL_law, (4, some .boolean)))
theorem lc_0 {X : Nat × (Int → Int)} {i : Nat} {m : Mem} {Q : zPost} (hi : i + 7 ≤ X.1) (hL : X.1 ≤ 3584) (hI : lwI m) (kk : ∀ m', lwI m' → ZZ X (0, 0) 12 mL_law G0 1411 [vc 2, vr 0, vr 88, vi (i : Int)] [] m' Q) : ZZ X (0, 0) 12 mL_law G0 176 [vc 2, vr 0, vr 88, vi (i : Int)] [] m Q := by
  have hI0 := hI
  obtain ⟨nf, fd, np, pr, nw, wd, fr, bk, mo, a, b, hS, hM, hR⟩ := hI
  have hS0 := hS
  obtain ⟨hC, hwc, hw0⟩ := hS0
  have hR0 := hR
  obtain ⟨rF, rP, rFr, rB, rW, o1, o2⟩ := hR0
  refine z_aload_n dL_law_176 rfl ?_
  refine z_sload_n dL_law_177 rfl ?_
  refine z_iload_n dL_law_178 rfl ?_
  refine z_iconst dL_law_179 (by decide) ?_
  refine z_iadd dL_law_180 (by omega) ?_
  refine z_sald dL_law_181 rfl (by omega) (by omega) ?_
  refine z_sload_n dL_law_182 rfl ?_
  refine z_iload_n dL_law_183 rfl ?_
  refine z_iconst dL_law_184 (by decide) ?_
  refine z_iadd dL_law_185 (by omega) ?_
  refine z_sald dL_law_186 rfl (by omega) (by omega) ?_
  refine z_sload_n dL_law_187 rfl ?_
  refine z_iload_n dL_law_188 rfl ?_
  refine z_iconst dL_law_189 (by decide) ?_
  refine z_iadd dL_law_190 (by omega) ?_
  refine z_sald dL_law_191 rfl (by omega) (by omega) ?_
  refine z_sload_n dL_law_192 rfl ?_
  refine z_iload_n dL_law_193 rfl ?_
  refine z_iconst dL_law_194 (by decide) ?_
  refine z_iadd dL_law_195 (by omega) ?_
  refine z_sald dL_law_196 rfl (by omega) (by omega) ?_
  refine z_sload_n dL_law_197 rfl ?_
  refine z_iload_n dL_law_198 rfl ?_
  refine z_iconst dL_law_199 (by decide) ?_
  refine z_iadd dL_law_200 (by omega) ?_
  refine z_sald dL_law_201 rfl (by omega) (by omega) ?_
  refine z_V5i dL_law_202 ok_X11_find lk_L_13 (by first | rfl | assumption) rfl rfl (Nat.le_of_ble_eq_true rfl) (by decide) (cm_X11_find hC.1) (fun z1 m1 q1 => ?_)
  have d1 := tri3 (show nf = 60 ∨ nf < 60 by have := hC.1.1; omega) q1
  have k1 : ∀ x, (88 ≤ x ∧ x < 105) ∨ x = 32 → m1 x = m x := by
    intro x hx
    rcases d1 with ⟨-, -, e⟩ | ⟨-, -, -, e⟩ | ⟨-, -, -, -, e⟩
    · rw [e]
    · rw [e]
    · exact e x (by omega)
  have hM1 := hM.hi k1
  refine z_aload_n dL_law_205 rfl ?_
  refine z_sload_n dL_law_206 rfl ?_
  refine z_iload_n dL_law_207 rfl ?_
  refine z_iconst dL_law_208 (by decide) ?_
  refine z_iadd dL_law_209 (by omega) ?_
  refine z_sald dL_law_210 rfl (by omega) (by omega) ?_
  refine z_sload_n dL_law_211 rfl ?_
  refine z_iload_n dL_law_212 rfl ?_
  refine z_iconst dL_law_213 (by decide) ?_
  refine z_iadd dL_law_214 (by omega) ?_
  refine z_sald dL_law_215 rfl (by omega) (by omega) ?_
  refine z_sload_n dL_law_216 rfl ?_
  refine z_iload_n dL_law_217 rfl ?_
  refine z_iconst dL_law_218 (by decide) ?_
  refine z_iadd dL_law_219 (by omega) ?_
  refine z_sald dL_law_220 rfl (by omega) (by omega) ?_
  refine z_sload_n dL_law_221 rfl ?_
  refine z_iload_n dL_law_222 rfl ?_
  refine z_iconst dL_law_223 (by decide) ?_
  refine z_iadd dL_law_224 (by omega) ?_
  refine z_sald dL_law_225 rfl (by omega) (by omega) ?_
  refine z_sload_n dL_law_226 rfl ?_
  refine z_iload_n dL_law_227 rfl ?_
  refine z_iconst dL_law_228 (by decide) ?_
  refine z_iadd dL_law_229 (by omega) ?_
  refine z_sald dL_law_230 rfl (by omega) (by omega) ?_
  refine z_V5i dL_law_231 ok_X12_find lk_L_17 (by first | rfl | assumption) rfl rfl (Nat.le_of_ble_eq_true rfl) (by decide) (cm_X12_find hM1.1) (fun z2 m2 q2 => ?_)
  have fin : z1 = z2 ∧ lwI m2 := by
    rcases d1 with ⟨no, e1, e2⟩ | ⟨ok, h60, e1, e2⟩ | ⟨ok, hlt, e1, f1, e2⟩
    · obtain ⟨g1, g2⟩ := q2.1 no
      exact ⟨e1.trans g1.symm, by rw [g2, e2]; exact hI0⟩
    · obtain ⟨g1, g2⟩ := q2.2.1 ok h60
      exact ⟨e1.trans g1.symm, by rw [g2, e2]; exact hI0⟩
    · obtain ⟨g1, f2, g2⟩ := q2.2.2 ok hlt
      have lo : ∀ x, x < 88 ∧ x ≠ 32 → m2 x = m1 x := fun x hx => g2.1 x (by omega) (by omega)
      refine ⟨e1.trans g1.symm, nf + 1, _, np, pr, nw, wd, fr, bk, mo, a, b, cS.lo (m1 := m1) ⟨⟨f1, hC.2.1.same fun x _ _ => e2 x (by omega), hC.2.2.1.same fun x _ _ => e2 x (by omega), hC.2.2.2.1.same fun x _ _ => e2 x (by omega), hC.2.2.2.2.1.same fun x _ _ => e2 x (by omega), by rw [e2 0 (by omega)]; exact hC.2.2.2.2.2.1, hC.2.2.2.2.2.2.kp fun x _ _ => e2 x (by omega)⟩, hwc.same (e2 22 (by omega)) (e2 27 (by omega)), hw0.same (e2 36 (by omega))⟩ lo, ⟨f2, hM1.2.1.same (g2.2 29 (by decide)) (g2.1 102 (by decide) (by decide)), hM1.2.2.1.same (g2.2 13 (by decide)) (g2.1 95 (by decide) (by decide)), hM1.2.2.2.1.same (g2.1 103 (by decide) (by decide)), hM1.2.2.2.2.1.same (g2.1 32 (by decide) (by decide)), (g2.2 4 (by decide)).trans hM1.2.2.2.2.2.1, hM1.2.2.2.2.2.2.1.kp (g2.1 89 (by decide) (by decide)) (g2.1 90 (by decide) (by decide)), hM1.2.2.2.2.2.2.2.kp (g2.1 89 (by decide) (by decide)) (g2.1 90 (by decide) (by decide))⟩, ⟨finR_put rF ok, rP, rFr, rB, rW, o1, o2⟩⟩
  refine z_icmp_eq 1411 dL_law_234 (by decide) (fun h234 => ?_) (fun h234 => ?_)
  · exact kk _ fin.2
  · exact absurd fin.1 h234
theorem lc_1 {X : Nat × (Int → Int)} {i : Nat} {m : Mem} {Q : zPost} (hi : i + 7 ≤ X.1) (hL : X.1 ≤ 3584) (hI : lwI m) (kk : ∀ m', lwI m' → ZZ X (0, 0) 12 mL_law G0 1411 [vc 2, vr 0, vr 88, vi (i : Int)] [] m' Q) : ZZ X (0, 0) 12 mL_law G0 239 [vc 2, vr 0, vr 88, vi (i : Int)] [] m Q := by
  have hI0 := hI
  obtain ⟨nf, fd, np, pr, nw, wd, fr, bk, mo, a, b, hS, hM, hR⟩ := hI
  have hS0 := hS
  obtain ⟨hC, hwc, hw0⟩ := hS0
  have hR0 := hR
  obtain ⟨rF, rP, rFr, rB, rW, o1, o2⟩ := hR0
  by_cases hz : X.2 ((i : Int) + 2) = 0
  · skip
    refine z_aload_n dL_law_239 rfl ?_
    refine z_sload_n dL_law_240 rfl ?_
    refine z_iload_n dL_law_241 rfl ?_
    refine z_iconst dL_law_242 (by decide) ?_
    refine z_iadd dL_law_243 (by omega) ?_
    refine z_sald dL_law_244 rfl (by omega) (by omega) ?_
    refine z_sload_n dL_law_245 rfl ?_
    refine z_iload_n dL_law_246 rfl ?_
    refine z_iconst dL_law_247 (by decide) ?_
    refine z_iadd dL_law_248 (by omega) ?_
    refine z_sald dL_law_249 rfl (by omega) (by omega) ?_
    refine z_if_eq 257 dL_law_250 (by decide) (fun h250 => ?_) (fun h250 => ?_)
    · refine z_iconst dL_law_257 (by decide) ?_
      refine z_V2i dL_law_258 ok_X11_doubt lk_L_18 (by first | rfl | assumption) rfl rfl (Nat.le_of_ble_eq_true rfl) (by decide) (cm_X11_doubt hC.1 (by first | exact Or.inl rfl | exact Or.inr rfl)) (fun z1 m1 q1 => ?_)
      obtain ⟨a1, f1, e2⟩ := q1
      have k1 : ∀ x, (88 ≤ x ∧ x < 105) ∨ x = 32 → m1 x = m x := fun x hx => e2 x (by omega)
      have hM1 := hM.hi k1
      refine z_aload_n dL_law_261 rfl ?_
      refine z_sload_n dL_law_262 rfl ?_
      refine z_iload_n dL_law_263 rfl ?_
      refine z_iconst dL_law_264 (by decide) ?_
      refine z_iadd dL_law_265 (by omega) ?_
      refine z_sald dL_law_266 rfl (by omega) (by omega) ?_
      refine z_sload_n dL_law_267 rfl ?_
      refine z_iload_n dL_law_268 rfl ?_
      refine z_iconst dL_law_269 (by decide) ?_
      refine z_iadd dL_law_270 (by omega) ?_
      refine z_sald dL_law_271 rfl (by omega) (by omega) ?_
      refine z_if_eq 279 dL_law_272 (by decide) (fun h272 => ?_) (fun h272 => ?_)
      · refine z_iconst dL_law_279 (by decide) ?_
        refine z_V2i dL_law_280 ok_X12_doubt lk_L_22 (by first | rfl | assumption) rfl rfl (Nat.le_of_ble_eq_true rfl) (by decide) (cm_X12_doubt hM1.1 rF (by first | exact Or.inl rfl | exact Or.inr rfl)) (fun z2 m2 q2 => ?_)
        have fin : z1 = z2 ∧ lwI m2 := by
          obtain ⟨a2, f2, g2⟩ := q2
          refine ⟨db_uniq a1 a2, nf, _, np, pr, nw, wd, fr, bk, mo, a, b, cS.lo (m1 := m1) ⟨⟨f1, hC.2.1.same fun x _ _ => e2 x (by omega), hC.2.2.1.same fun x _ _ => e2 x (by omega), hC.2.2.2.1.same fun x _ _ => e2 x (by omega), hC.2.2.2.2.1.same fun x _ _ => e2 x (by omega), by rw [e2 0 (by omega)]; exact hC.2.2.2.2.2.1, hC.2.2.2.2.2.2.kp fun x _ _ => e2 x (by omega)⟩, hwc.same (e2 22 (by omega)) (e2 27 (by omega)), hw0.same (e2 36 (by omega))⟩ (fun x hx => g2 x (by omega)), ⟨f2, hM1.2.1.same (by rw [g2 88 (by decide)]) (g2 102 (by decide)), hM1.2.2.1.same (by rw [g2 88 (by decide)]) (g2 95 (by decide)), hM1.2.2.2.1.same (g2 103 (by decide)), hM1.2.2.2.2.1.same (g2 32 (by decide)), by rw [g2 88 (by decide)]; exact hM1.2.2.2.2.2.1, hM1.2.2.2.2.2.2.1.kp (g2 89 (by decide)) (g2 90 (by decide)), hM1.2.2.2.2.2.2.2.kp (g2 89 (by decide)) (g2 90 (by decide))⟩, ⟨finR_db rF (by first | exact Or.inl rfl | exact Or.inr rfl), rP, rFr, rB, rW, o1, o2⟩⟩
        refine z_icmp_eq 1411 dL_law_283 (by decide) (fun h283 => ?_) (fun h283 => ?_)
        · exact kk _ fin.2
        · exact absurd fin.1 h283
      · exact absurd hz h272
    · exact absurd hz h250
  · skip
    refine z_aload_n dL_law_239 rfl ?_
    refine z_sload_n dL_law_240 rfl ?_
    refine z_iload_n dL_law_241 rfl ?_
    refine z_iconst dL_law_242 (by decide) ?_
    refine z_iadd dL_law_243 (by omega) ?_
    refine z_sald dL_law_244 rfl (by omega) (by omega) ?_
    refine z_sload_n dL_law_245 rfl ?_
    refine z_iload_n dL_law_246 rfl ?_
    refine z_iconst dL_law_247 (by decide) ?_
    refine z_iadd dL_law_248 (by omega) ?_
    refine z_sald dL_law_249 rfl (by omega) (by omega) ?_
    refine z_if_eq 257 dL_law_250 (by decide) (fun h250 => ?_) (fun h250 => ?_)
    · exact absurd h250 hz
    · refine z_iconst dL_law_253 (by decide) ?_
      refine z_goto 258 dL_law_254 (by decide) ?_
      refine z_V2i dL_law_258 ok_X11_doubt lk_L_18 (by first | rfl | assumption) rfl rfl (Nat.le_of_ble_eq_true rfl) (by decide) (cm_X11_doubt hC.1 (by first | exact Or.inl rfl | exact Or.inr rfl)) (fun z1 m1 q1 => ?_)
      obtain ⟨a1, f1, e2⟩ := q1
      have k1 : ∀ x, (88 ≤ x ∧ x < 105) ∨ x = 32 → m1 x = m x := fun x hx => e2 x (by omega)
      have hM1 := hM.hi k1
      refine z_aload_n dL_law_261 rfl ?_
      refine z_sload_n dL_law_262 rfl ?_
      refine z_iload_n dL_law_263 rfl ?_
      refine z_iconst dL_law_264 (by decide) ?_
      refine z_iadd dL_law_265 (by omega) ?_
      refine z_sald dL_law_266 rfl (by omega) (by omega) ?_
      refine z_sload_n dL_law_267 rfl ?_
      refine z_iload_n dL_law_268 rfl ?_
      refine z_iconst dL_law_269 (by decide) ?_
      refine z_iadd dL_law_270 (by omega) ?_
      refine z_sald dL_law_271 rfl (by omega) (by omega) ?_
      refine z_if_eq 279 dL_law_272 (by decide) (fun h272 => ?_) (fun h272 => ?_)
      · exact absurd h272 hz
      · refine z_iconst dL_law_275 (by decide) ?_
        refine z_goto 280 dL_law_276 (by decide) ?_
        refine z_V2i dL_law_280 ok_X12_doubt lk_L_22 (by first | rfl | assumption) rfl rfl (Nat.le_of_ble_eq_true rfl) (by decide) (cm_X12_doubt hM1.1 rF (by first | exact Or.inl rfl | exact Or.inr rfl)) (fun z2 m2 q2 => ?_)
        have fin : z1 = z2 ∧ lwI m2 := by
          obtain ⟨a2, f2, g2⟩ := q2
          refine ⟨db_uniq a1 a2, nf, _, np, pr, nw, wd, fr, bk, mo, a, b, cS.lo (m1 := m1) ⟨⟨f1, hC.2.1.same fun x _ _ => e2 x (by omega), hC.2.2.1.same fun x _ _ => e2 x (by omega), hC.2.2.2.1.same fun x _ _ => e2 x (by omega), hC.2.2.2.2.1.same fun x _ _ => e2 x (by omega), by rw [e2 0 (by omega)]; exact hC.2.2.2.2.2.1, hC.2.2.2.2.2.2.kp fun x _ _ => e2 x (by omega)⟩, hwc.same (e2 22 (by omega)) (e2 27 (by omega)), hw0.same (e2 36 (by omega))⟩ (fun x hx => g2 x (by omega)), ⟨f2, hM1.2.1.same (by rw [g2 88 (by decide)]) (g2 102 (by decide)), hM1.2.2.1.same (by rw [g2 88 (by decide)]) (g2 95 (by decide)), hM1.2.2.2.1.same (g2 103 (by decide)), hM1.2.2.2.2.1.same (g2 32 (by decide)), by rw [g2 88 (by decide)]; exact hM1.2.2.2.2.2.1, hM1.2.2.2.2.2.2.1.kp (g2 89 (by decide)) (g2 90 (by decide)), hM1.2.2.2.2.2.2.2.kp (g2 89 (by decide)) (g2 90 (by decide))⟩, ⟨finR_db rF (by first | exact Or.inl rfl | exact Or.inr rfl), rP, rFr, rB, rW, o1, o2⟩⟩
        refine z_icmp_eq 1411 dL_law_283 (by decide) (fun h283 => ?_) (fun h283 => ?_)
        · exact kk _ fin.2
        · exact absurd fin.1 h283
theorem lc_2 {X : Nat × (Int → Int)} {i : Nat} {m : Mem} {Q : zPost} (hi : i + 7 ≤ X.1) (hL : X.1 ≤ 3584) (hI : lwI m) (kk : ∀ m', lwI m' → ZZ X (0, 0) 12 mL_law G0 1411 [vc 2, vr 0, vr 88, vi (i : Int)] [] m' Q) : ZZ X (0, 0) 12 mL_law G0 288 [vc 2, vr 0, vr 88, vi (i : Int)] [] m Q := by
  have hI0 := hI
  obtain ⟨nf, fd, np, pr, nw, wd, fr, bk, mo, a, b, hS, hM, hR⟩ := hI
  have hS0 := hS
  obtain ⟨hC, hwc, hw0⟩ := hS0
  have hR0 := hR
  obtain ⟨rF, rP, rFr, rB, rW, o1, o2⟩ := hR0
  refine z_aload_n dL_law_288 rfl ?_
  refine z_sload_n dL_law_289 rfl ?_
  refine z_iload_n dL_law_290 rfl ?_
  refine z_iconst dL_law_291 (by decide) ?_
  refine z_iadd dL_law_292 (by omega) ?_
  refine z_sald dL_law_293 rfl (by omega) (by omega) ?_
  refine z_sload_n dL_law_294 rfl ?_
  refine z_iload_n dL_law_295 rfl ?_
  refine z_iconst dL_law_296 (by decide) ?_
  refine z_iadd dL_law_297 (by omega) ?_
  refine z_sald dL_law_298 rfl (by omega) (by omega) ?_
  refine z_V2i dL_law_299 ok_X11_numbers lk_L_23 (by first | rfl | assumption) rfl rfl (Nat.le_of_ble_eq_true rfl) (by decide) (cm_X11_numbers hC.1 rF) (fun z1 m1 q1 => ?_)
  have k1 : ∀ x, (88 ≤ x ∧ x < 105) ∨ x = 32 → m1 x = m x := fun x hx => q1.2 x (by omega) (by omega)
  have hS1 := hS.keep (m1 := m1) (fun x hx => q1.2 x (by omega) (by omega))
  have hM1 := hM.hi k1
  refine z_aload_n dL_law_302 rfl ?_
  refine z_sload_n dL_law_303 rfl ?_
  refine z_iload_n dL_law_304 rfl ?_
  refine z_iconst dL_law_305 (by decide) ?_
  refine z_iadd dL_law_306 (by omega) ?_
  refine z_sald dL_law_307 rfl (by omega) (by omega) ?_
  refine z_sload_n dL_law_308 rfl ?_
  refine z_iload_n dL_law_309 rfl ?_
  refine z_iconst dL_law_310 (by decide) ?_
  refine z_iadd dL_law_311 (by omega) ?_
  refine z_sald dL_law_312 rfl (by omega) (by omega) ?_
  refine z_V2i dL_law_313 ok_X12_numbers lk_L_27 (by first | rfl | assumption) rfl rfl (Nat.le_of_ble_eq_true rfl) (by decide) (cm_X12_numbers hM1.1 rF) (fun z2 m2 q2 => ?_)
  have fin : z1 = z2 ∧ lwI m2 := ⟨q1.1.trans q2.1.symm, nf, fd, np, pr, nw, wd, fr, bk, mo, a, b, cS.lo hS1 (fun x hx => q2.2.1 x (by omega) (by omega)), hM1.all (fun x hx => q2.2.1 x (by omega) (by omega)) (fun j hj => q2.2.2 j (by omega)), hR⟩
  refine z_icmp_eq 1411 dL_law_316 (by decide) (fun h316 => ?_) (fun h316 => ?_)
  · exact kk _ fin.2
  · exact absurd fin.1 h316
theorem lc_3 {X : Nat × (Int → Int)} {i : Nat} {m : Mem} {Q : zPost} (hi : i + 7 ≤ X.1) (hL : X.1 ≤ 3584) (hI : lwI m) (kk : ∀ m', lwI m' → ZZ X (0, 0) 12 mL_law G0 1411 [vc 2, vr 0, vr 88, vi (i : Int)] [] m' Q) : ZZ X (0, 0) 12 mL_law G0 321 [vc 2, vr 0, vr 88, vi (i : Int)] [] m Q := by
  have hI0 := hI
  obtain ⟨nf, fd, np, pr, nw, wd, fr, bk, mo, a, b, hS, hM, hR⟩ := hI
  have hS0 := hS
  obtain ⟨hC, hwc, hw0⟩ := hS0
  have hR0 := hR
  obtain ⟨rF, rP, rFr, rB, rW, o1, o2⟩ := hR0
  refine z_aload_n dL_law_321 rfl ?_
  refine z_sload_n dL_law_322 rfl ?_
  refine z_iload_n dL_law_323 rfl ?_
  refine z_iconst dL_law_324 (by decide) ?_
  refine z_iadd dL_law_325 (by omega) ?_
  refine z_sald dL_law_326 rfl (by omega) (by omega) ?_
  refine z_sload_n dL_law_327 rfl ?_
  refine z_iload_n dL_law_328 rfl ?_
  refine z_iconst dL_law_329 (by decide) ?_
  refine z_iadd dL_law_330 (by omega) ?_
  refine z_sald dL_law_331 rfl (by omega) (by omega) ?_
  refine z_sload_n dL_law_332 rfl ?_
  refine z_iload_n dL_law_333 rfl ?_
  refine z_iconst dL_law_334 (by decide) ?_
  refine z_iadd dL_law_335 (by omega) ?_
  refine z_sald dL_law_336 rfl (by omega) (by omega) ?_
  refine z_V3i dL_law_337 ok_X11_fits lk_L_28 (by first | rfl | assumption) rfl rfl (Nat.le_of_ble_eq_true rfl) (by decide) (cm_X11_fits hC.1 rF) (fun z1 m1 q1 => ?_)
  have k1 : ∀ x, (88 ≤ x ∧ x < 105) ∨ x = 32 → m1 x = m x := fun x hx => q1.2 x (by omega) (by omega)
  have hS1 := hS.keep (m1 := m1) (fun x hx => q1.2 x (by omega) (by omega))
  have hM1 := hM.hi k1
  refine z_aload_n dL_law_340 rfl ?_
  refine z_sload_n dL_law_341 rfl ?_
  refine z_iload_n dL_law_342 rfl ?_
  refine z_iconst dL_law_343 (by decide) ?_
  refine z_iadd dL_law_344 (by omega) ?_
  refine z_sald dL_law_345 rfl (by omega) (by omega) ?_
  refine z_sload_n dL_law_346 rfl ?_
  refine z_iload_n dL_law_347 rfl ?_
  refine z_iconst dL_law_348 (by decide) ?_
  refine z_iadd dL_law_349 (by omega) ?_
  refine z_sald dL_law_350 rfl (by omega) (by omega) ?_
  refine z_sload_n dL_law_351 rfl ?_
  refine z_iload_n dL_law_352 rfl ?_
  refine z_iconst dL_law_353 (by decide) ?_
  refine z_iadd dL_law_354 (by omega) ?_
  refine z_sald dL_law_355 rfl (by omega) (by omega) ?_
  refine z_V3i dL_law_356 ok_X12_fits lk_L_32 (by first | rfl | assumption) rfl rfl (Nat.le_of_ble_eq_true rfl) (by decide) (cm_X12_fits hM1.1 rF) (fun z2 m2 q2 => ?_)
  have fin : z1 = z2 ∧ lwI m2 := ⟨q1.1.uniq q2.1, nf, fd, np, pr, nw, wd, fr, bk, mo, a, b, cS.lo hS1 (fun x hx => q2.2.1 x (by omega) (by omega)), hM1.all (fun x hx => q2.2.1 x (by omega) (by omega)) (fun j hj => q2.2.2 j (by omega)), hR⟩
  refine z_icmp_eq 1411 dL_law_359 (by decide) (fun h359 => ?_) (fun h359 => ?_)
  · exact kk _ fin.2
  · exact absurd fin.1 h359
theorem lc_4 {X : Nat × (Int → Int)} {i : Nat} {m : Mem} {Q : zPost} (hi : i + 7 ≤ X.1) (hL : X.1 ≤ 3584) (hI : lwI m) (kk : ∀ m', lwI m' → ZZ X (0, 0) 12 mL_law G0 1411 [vc 2, vr 0, vr 88, vi (i : Int)] [] m' Q) : ZZ X (0, 0) 12 mL_law G0 364 [vc 2, vr 0, vr 88, vi (i : Int)] [] m Q := by
  have hI0 := hI
  obtain ⟨nf, fd, np, pr, nw, wd, fr, bk, mo, a, b, hS, hM, hR⟩ := hI
  have hS0 := hS
  obtain ⟨hC, hwc, hw0⟩ := hS0
  have hR0 := hR
  obtain ⟨rF, rP, rFr, rB, rW, o1, o2⟩ := hR0
  refine z_aload_n dL_law_364 rfl ?_
  refine z_sload_n dL_law_365 rfl ?_
  refine z_iload_n dL_law_366 rfl ?_
  refine z_iconst dL_law_367 (by decide) ?_
  refine z_iadd dL_law_368 (by omega) ?_
  refine z_sald dL_law_369 rfl (by omega) (by omega) ?_
  refine z_V1i dL_law_370 ok_X11_most lk_L_33 (by first | rfl | assumption) rfl rfl (Nat.le_of_ble_eq_true rfl) (by decide) (cm_X11_most hC.2.2.2.2.2.1) (fun z1 m1 q1 => ?_)
  have d1 := two2 q1
  have k1 : ∀ x, (88 ≤ x ∧ x < 105) ∨ x = 32 → m1 x = m x := by
    intro x hx
    rcases d1 with ⟨-, -, e⟩ | ⟨-, -, e⟩
    · rw [e]
    · rw [e, mset_ne _ (by omega)]
  have hM1 := hM.hi k1
  refine z_aload_n dL_law_373 rfl ?_
  refine z_sload_n dL_law_374 rfl ?_
  refine z_iload_n dL_law_375 rfl ?_
  refine z_iconst dL_law_376 (by decide) ?_
  refine z_iadd dL_law_377 (by omega) ?_
  refine z_sald dL_law_378 rfl (by omega) (by omega) ?_
  refine z_V1i dL_law_379 ok_X12_most lk_L_37 (by first | rfl | assumption) rfl rfl (Nat.le_of_ble_eq_true rfl) (by decide) (cm_X12_most hM1.2.2.2.2.2.1) (fun z2 m2 q2 => ?_)
  have fin : z1 = z2 ∧ lwI m2 := by
    rcases d1 with ⟨no, e1, e2⟩ | ⟨ok, e1, e2⟩
    · obtain ⟨g1, g2⟩ := q2.1 no
      exact ⟨e1.trans g1.symm, by rw [g2, e2]; exact hI0⟩
    · obtain ⟨g1, g2⟩ := q2.2 ok
      obtain ⟨n', hn⟩ : ∃ n' : Nat, X.2 ((i : Int) + 1) = (n' : Int) := ⟨(X.2 ((i : Int) + 1)).toNat, by have := ok.1; omega⟩
      rw [hn] at e2 g2 ok
      have c1 : ∀ x, x ≠ 0 → m1 x = m x := fun x hx => by rw [e2, mset_ne _ hx]
      have c2 : ∀ x, x ≠ 88 → m2 x = m1 x := fun x hx => by rw [g2, mset_ne _ hx]
      have c3 : ∀ j, j ≠ 4 → m2 88 j = m1 88 j := fun j hj => by rw [g2, mset_nej _ _ hj]
      refine ⟨e1.trans g1.symm, nf, fd, np, pr, nw, wd, fr, bk, n', a, b, cS.lo (m1 := m1) ⟨⟨hC.1.off fun x _ _ => c1 x (by omega), hC.2.1.same fun x _ _ => c1 x (by omega), hC.2.2.1.same fun x _ _ => c1 x (by omega), hC.2.2.2.1.same fun x _ _ => c1 x (by omega), hC.2.2.2.2.1.same fun x _ _ => c1 x (by omega), by rw [e2]; exact mset_eq _ _ _ _, hC.2.2.2.2.2.2.kp fun x _ _ => c1 x (by omega)⟩, hwc.same (c1 22 (by decide)) (c1 27 (by decide)), hw0.same (c1 36 (by decide))⟩ (fun x hx => c2 x (by omega)), ⟨hM1.1.off (c3 3 (by decide)) (c2 91 (by decide)), hM1.2.1.same (c3 29 (by decide)) (c2 102 (by decide)), hM1.2.2.1.same (c3 13 (by decide)) (c2 95 (by decide)), hM1.2.2.2.1.same (c2 103 (by decide)), hM1.2.2.2.2.1.same (c2 32 (by decide)), by rw [g2]; exact mset_eq _ _ _ _, hM1.2.2.2.2.2.2.1.kp (c2 89 (by decide)) (c2 90 (by decide)), hM1.2.2.2.2.2.2.2.kp (c2 89 (by decide)) (c2 90 (by decide))⟩, ⟨rF, rP, rFr, rB, rW, by have := ok.1; omega, by have := ok.2; omega⟩⟩
  refine z_icmp_eq 1411 dL_law_382 (by decide) (fun h382 => ?_) (fun h382 => ?_)
  · exact kk _ fin.2
  · exact absurd fin.1 h382
theorem lc_5 {X : Nat × (Int → Int)} {i : Nat} {m : Mem} {Q : zPost} (hi : i + 7 ≤ X.1) (hL : X.1 ≤ 3584) (hI : lwI m) (kk : ∀ m', lwI m' → ZZ X (0, 0) 12 mL_law G0 1411 [vc 2, vr 0, vr 88, vi (i : Int)] [] m' Q) : ZZ X (0, 0) 12 mL_law G0 387 [vc 2, vr 0, vr 88, vi (i : Int)] [] m Q := by
  have hI0 := hI
  obtain ⟨nf, fd, np, pr, nw, wd, fr, bk, mo, a, b, hS, hM, hR⟩ := hI
  have hS0 := hS
  obtain ⟨hC, hwc, hw0⟩ := hS0
  have hR0 := hR
  obtain ⟨rF, rP, rFr, rB, rW, o1, o2⟩ := hR0
  refine z_aload_n dL_law_387 rfl ?_
  refine z_sload_n dL_law_388 rfl ?_
  refine z_iload_n dL_law_389 rfl ?_
  refine z_iconst dL_law_390 (by decide) ?_
  refine z_iadd dL_law_391 (by omega) ?_
  refine z_sald dL_law_392 rfl (by omega) (by omega) ?_
  refine z_sload_n dL_law_393 rfl ?_
  refine z_iload_n dL_law_394 rfl ?_
  refine z_iconst dL_law_395 (by decide) ?_
  refine z_iadd dL_law_396 (by omega) ?_
  refine z_sald dL_law_397 rfl (by omega) (by omega) ?_
  refine z_sload_n dL_law_398 rfl ?_
  refine z_iload_n dL_law_399 rfl ?_
  refine z_iconst dL_law_400 (by decide) ?_
  refine z_iadd dL_law_401 (by omega) ?_
  refine z_sald dL_law_402 rfl (by omega) (by omega) ?_
  refine z_sload_n dL_law_403 rfl ?_
  refine z_iload_n dL_law_404 rfl ?_
  refine z_iconst dL_law_405 (by decide) ?_
  refine z_iadd dL_law_406 (by omega) ?_
  refine z_sald dL_law_407 rfl (by omega) (by omega) ?_
  refine z_V4i dL_law_408 ok_X11_odds lk_L_38 (by first | rfl | assumption) rfl rfl (Nat.le_of_ble_eq_true rfl) (by decide) (cm_X11_odds hC.1 rF hC.2.2.2.2.2.1 o1 o2) (fun z1 m1 q1 => ?_)
  have d1 := sq3 q1
  have k1 : ∀ x, (88 ≤ x ∧ x < 105) ∨ x = 32 → m1 x = m x := by
    intro x hx
    rcases d1 with ⟨-, -, e⟩ | ⟨-, -, -, e⟩ | ⟨-, -, -, -, e⟩
    · rw [e]
    · exact e x (by omega)
    · exact e x (by omega)
  have hM1 := hM.hi k1
  refine z_aload_n dL_law_411 rfl ?_
  refine z_sload_n dL_law_412 rfl ?_
  refine z_iload_n dL_law_413 rfl ?_
  refine z_iconst dL_law_414 (by decide) ?_
  refine z_iadd dL_law_415 (by omega) ?_
  refine z_sald dL_law_416 rfl (by omega) (by omega) ?_
  refine z_sload_n dL_law_417 rfl ?_
  refine z_iload_n dL_law_418 rfl ?_
  refine z_iconst dL_law_419 (by decide) ?_
  refine z_iadd dL_law_420 (by omega) ?_
  refine z_sald dL_law_421 rfl (by omega) (by omega) ?_
  refine z_sload_n dL_law_422 rfl ?_
  refine z_iload_n dL_law_423 rfl ?_
  refine z_iconst dL_law_424 (by decide) ?_
  refine z_iadd dL_law_425 (by omega) ?_
  refine z_sald dL_law_426 rfl (by omega) (by omega) ?_
  refine z_sload_n dL_law_427 rfl ?_
  refine z_iload_n dL_law_428 rfl ?_
  refine z_iconst dL_law_429 (by decide) ?_
  refine z_iadd dL_law_430 (by omega) ?_
  refine z_sald dL_law_431 rfl (by omega) (by omega) ?_
  refine z_V4i dL_law_432 ok_X12_odds lk_L_42 (by first | rfl | assumption) rfl rfl (Nat.le_of_ble_eq_true rfl) (by decide) (cm_X12_odds hM1.1 rF hM1.2.2.2.2.2.1 o1 o2) (fun z2 m2 q2 => ?_)
  have fin : z1 = z2 ∧ lwI m2 := by
    have lo : ∀ x, x < 88 ∧ x ≠ 32 → m2 x = m1 x := fun x hx => q2.2.2.2.1 x (by omega)
    have hk2 : ∀ x, x = 91 ∨ x = 95 ∨ x = 102 ∨ x = 103 ∨ x = 32 → m2 x = m1 x := fun x hx => q2.2.2.2.1 x (by omega)
    have h88 : ∀ j, j = 3 ∨ j = 4 ∨ j = 13 ∨ j = 29 → m2 88 j = m1 88 j := fun j hj => q2.2.2.2.2 j (by omega) (by omega) (by omega) (by omega)
    rcases d1 with ⟨h1, e1, e2⟩ | ⟨h1, h2, e1, e2⟩ | ⟨h1, h2, e1, e2, e3⟩
    · obtain ⟨g1, g2⟩ := q2.1 h1
      exact ⟨e1.trans g1.symm, nf, fd, np, pr, nw, wd, fr, bk, mo, a, b, cS.lo (hS.keep (m1 := m1) fun x hx => by rw [e2]) lo, hM1.kf hk2 h88 g2, hR⟩
    · obtain ⟨g1, g2⟩ := q2.2.1 h1 h2
      exact ⟨e1.trans g1.symm, nf, fd, np, pr, nw, wd, fr, bk, mo, a, b, cS.lo (hS.keep (m1 := m1) fun x hx => e2 x (by omega)) lo, hM1.kf hk2 h88 g2, hR⟩
    · obtain ⟨g1, g2, g3⟩ := q2.2.2.1 h1 h2
      exact ⟨e1.trans g1.symm, nf, fd, np, pr, nw, wd, fr, bk, mo, _, _, cS.lo (hS.newF (m1 := m1) (fun x hx => e3 x (by omega)) (by rw [e3 68 (by omega)]) (hw0.same (e3 36 (by omega))) e2) lo, hM1.off hk2 h88 g2 g3, hR⟩
  refine z_icmp_eq 1411 dL_law_435 (by decide) (fun h435 => ?_) (fun h435 => ?_)
  · exact kk _ fin.2
  · exact absurd fin.1 h435
theorem lc_6 {X : Nat × (Int → Int)} {i : Nat} {m : Mem} {Q : zPost} (hi : i + 7 ≤ X.1) (hL : X.1 ≤ 3584) (hI : lwI m) (kk : ∀ m', lwI m' → ZZ X (0, 0) 12 mL_law G0 1411 [vc 2, vr 0, vr 88, vi (i : Int)] [] m' Q) : ZZ X (0, 0) 12 mL_law G0 440 [vc 2, vr 0, vr 88, vi (i : Int)] [] m Q := by
  have hI0 := hI
  obtain ⟨nf, fd, np, pr, nw, wd, fr, bk, mo, a, b, hS, hM, hR⟩ := hI
  have hS0 := hS
  obtain ⟨hC, hwc, hw0⟩ := hS0
  have hR0 := hR
  obtain ⟨rF, rP, rFr, rB, rW, o1, o2⟩ := hR0
  refine z_aload_n dL_law_440 rfl ?_
  refine z_sload_n dL_law_441 rfl ?_
  refine z_iload_n dL_law_442 rfl ?_
  refine z_iconst dL_law_443 (by decide) ?_
  refine z_iadd dL_law_444 (by omega) ?_
  refine z_sald dL_law_445 rfl (by omega) (by omega) ?_
  refine z_sload_n dL_law_446 rfl ?_
  refine z_iload_n dL_law_447 rfl ?_
  refine z_iconst dL_law_448 (by decide) ?_
  refine z_iadd dL_law_449 (by omega) ?_
  refine z_sald dL_law_450 rfl (by omega) (by omega) ?_
  refine z_sload_n dL_law_451 rfl ?_
  refine z_iload_n dL_law_452 rfl ?_
  refine z_iconst dL_law_453 (by decide) ?_
  refine z_iadd dL_law_454 (by omega) ?_
  refine z_sald dL_law_455 rfl (by omega) (by omega) ?_
  refine z_sload_n dL_law_456 rfl ?_
  refine z_iload_n dL_law_457 rfl ?_
  refine z_iconst dL_law_458 (by decide) ?_
  refine z_iadd dL_law_459 (by omega) ?_
  refine z_sald dL_law_460 rfl (by omega) (by omega) ?_
  refine z_V4i dL_law_461 ok_X11_atLeast lk_L_43 (by first | rfl | assumption) rfl rfl (Nat.le_of_ble_eq_true rfl) (by decide) (cm_X11_atLeast hC.1 rF hC.2.2.2.2.2.1 o1 o2) (fun z1 m1 q1 => ?_)
  have d1 := sq3 q1
  have k1 : ∀ x, (88 ≤ x ∧ x < 105) ∨ x = 32 → m1 x = m x := by
    intro x hx
    rcases d1 with ⟨-, -, e⟩ | ⟨-, -, -, e⟩ | ⟨-, -, -, -, e⟩
    · rw [e]
    · exact e x (by omega)
    · exact e x (by omega)
  have hM1 := hM.hi k1
  refine z_aload_n dL_law_464 rfl ?_
  refine z_sload_n dL_law_465 rfl ?_
  refine z_iload_n dL_law_466 rfl ?_
  refine z_iconst dL_law_467 (by decide) ?_
  refine z_iadd dL_law_468 (by omega) ?_
  refine z_sald dL_law_469 rfl (by omega) (by omega) ?_
  refine z_sload_n dL_law_470 rfl ?_
  refine z_iload_n dL_law_471 rfl ?_
  refine z_iconst dL_law_472 (by decide) ?_
  refine z_iadd dL_law_473 (by omega) ?_
  refine z_sald dL_law_474 rfl (by omega) (by omega) ?_
  refine z_sload_n dL_law_475 rfl ?_
  refine z_iload_n dL_law_476 rfl ?_
  refine z_iconst dL_law_477 (by decide) ?_
  refine z_iadd dL_law_478 (by omega) ?_
  refine z_sald dL_law_479 rfl (by omega) (by omega) ?_
  refine z_sload_n dL_law_480 rfl ?_
  refine z_iload_n dL_law_481 rfl ?_
  refine z_iconst dL_law_482 (by decide) ?_
  refine z_iadd dL_law_483 (by omega) ?_
  refine z_sald dL_law_484 rfl (by omega) (by omega) ?_
  refine z_V4i dL_law_485 ok_X12_atLeast lk_L_46 (by first | rfl | assumption) rfl rfl (Nat.le_of_ble_eq_true rfl) (by decide) (cm_X12_atLeast hM1.1 rF hM1.2.2.2.2.2.1 o1 o2) (fun z2 m2 q2 => ?_)
  have fin : z1 = z2 ∧ lwI m2 := by
    have lo : ∀ x, x < 88 ∧ x ≠ 32 → m2 x = m1 x := fun x hx => q2.2.2.2.1 x (by omega)
    have hk2 : ∀ x, x = 91 ∨ x = 95 ∨ x = 102 ∨ x = 103 ∨ x = 32 → m2 x = m1 x := fun x hx => q2.2.2.2.1 x (by omega)
    have h88 : ∀ j, j = 3 ∨ j = 4 ∨ j = 13 ∨ j = 29 → m2 88 j = m1 88 j := fun j hj => q2.2.2.2.2 j (by omega) (by omega) (by omega) (by omega)
    rcases d1 with ⟨h1, e1, e2⟩ | ⟨h1, h2, e1, e2⟩ | ⟨h1, h2, e1, e2, e3⟩
    · obtain ⟨g1, g2⟩ := q2.1 h1
      exact ⟨e1.trans g1.symm, nf, fd, np, pr, nw, wd, fr, bk, mo, a, b, cS.lo (hS.keep (m1 := m1) fun x hx => by rw [e2]) lo, hM1.kf hk2 h88 g2, hR⟩
    · obtain ⟨g1, g2⟩ := q2.2.1 h1 h2
      exact ⟨e1.trans g1.symm, nf, fd, np, pr, nw, wd, fr, bk, mo, a, b, cS.lo (hS.keep (m1 := m1) fun x hx => e2 x (by omega)) lo, hM1.kf hk2 h88 g2, hR⟩
    · obtain ⟨g1, g2, g3⟩ := q2.2.2.1 h1 h2
      exact ⟨e1.trans g1.symm, nf, fd, np, pr, nw, wd, fr, bk, mo, _, _, cS.lo (hS.newF (m1 := m1) (fun x hx => e3 x (by omega)) (by rw [e3 68 (by omega)]) (hw0.same (e3 36 (by omega))) e2) lo, hM1.off hk2 h88 g2 g3, hR⟩
  refine z_icmp_eq 1411 dL_law_488 (by decide) (fun h488 => ?_) (fun h488 => ?_)
  · exact kk _ fin.2
  · exact absurd fin.1 h488
theorem lc_7 {X : Nat × (Int → Int)} {i : Nat} {m : Mem} {Q : zPost} (hi : i + 7 ≤ X.1) (hL : X.1 ≤ 3584) (hI : lwI m) (kk : ∀ m', lwI m' → ZZ X (0, 0) 12 mL_law G0 1411 [vc 2, vr 0, vr 88, vi (i : Int)] [] m' Q) : ZZ X (0, 0) 12 mL_law G0 493 [vc 2, vr 0, vr 88, vi (i : Int)] [] m Q := by
  have hI0 := hI
  obtain ⟨nf, fd, np, pr, nw, wd, fr, bk, mo, a, b, hS, hM, hR⟩ := hI
  have hS0 := hS
  obtain ⟨hC, hwc, hw0⟩ := hS0
  have hR0 := hR
  obtain ⟨rF, rP, rFr, rB, rW, o1, o2⟩ := hR0
  refine z_aload_n dL_law_493 rfl ?_
  refine z_sload_n dL_law_494 rfl ?_
  refine z_iload_n dL_law_495 rfl ?_
  refine z_iconst dL_law_496 (by decide) ?_
  refine z_iadd dL_law_497 (by omega) ?_
  refine z_sald dL_law_498 rfl (by omega) (by omega) ?_
  refine z_sload_n dL_law_499 rfl ?_
  refine z_iload_n dL_law_500 rfl ?_
  refine z_iconst dL_law_501 (by decide) ?_
  refine z_iadd dL_law_502 (by omega) ?_
  refine z_sald dL_law_503 rfl (by omega) (by omega) ?_
  refine z_sload_n dL_law_504 rfl ?_
  refine z_iload_n dL_law_505 rfl ?_
  refine z_iconst dL_law_506 (by decide) ?_
  refine z_iadd dL_law_507 (by omega) ?_
  refine z_sald dL_law_508 rfl (by omega) (by omega) ?_
  refine z_sload_n dL_law_509 rfl ?_
  refine z_iload_n dL_law_510 rfl ?_
  refine z_iconst dL_law_511 (by decide) ?_
  refine z_iadd dL_law_512 (by omega) ?_
  refine z_sald dL_law_513 rfl (by omega) (by omega) ?_
  refine z_sload_n dL_law_514 rfl ?_
  refine z_iload_n dL_law_515 rfl ?_
  refine z_iconst dL_law_516 (by decide) ?_
  refine z_iadd dL_law_517 (by omega) ?_
  refine z_sald dL_law_518 rfl (by omega) (by omega) ?_
  refine z_sload_n dL_law_519 rfl ?_
  refine z_iload_n dL_law_520 rfl ?_
  refine z_bipush dL_law_521 (by decide) ?_
  refine z_iadd dL_law_523 (by omega) ?_
  refine z_sald dL_law_524 rfl (by omega) (by omega) ?_
  refine z_V6i dL_law_525 ok_X11_span lk_L_47 (by first | rfl | assumption) rfl rfl (Nat.le_of_ble_eq_true rfl) (by decide) (cm_X11_span hC.1 rF hC.2.2.2.2.2.1 o1 o2) (fun z1 m1 q1 => ?_)
  have k1 : ∀ x, (88 ≤ x ∧ x < 105) ∨ x = 32 → m1 x = m x := fun x hx => q1.2 x (by omega)
  have hS1 := hS.keep (m1 := m1) (fun x hx => q1.2 x (by omega))
  have hM1 := hM.hi k1
  refine z_aload_n dL_law_528 rfl ?_
  refine z_sload_n dL_law_529 rfl ?_
  refine z_iload_n dL_law_530 rfl ?_
  refine z_iconst dL_law_531 (by decide) ?_
  refine z_iadd dL_law_532 (by omega) ?_
  refine z_sald dL_law_533 rfl (by omega) (by omega) ?_
  refine z_sload_n dL_law_534 rfl ?_
  refine z_iload_n dL_law_535 rfl ?_
  refine z_iconst dL_law_536 (by decide) ?_
  refine z_iadd dL_law_537 (by omega) ?_
  refine z_sald dL_law_538 rfl (by omega) (by omega) ?_
  refine z_sload_n dL_law_539 rfl ?_
  refine z_iload_n dL_law_540 rfl ?_
  refine z_iconst dL_law_541 (by decide) ?_
  refine z_iadd dL_law_542 (by omega) ?_
  refine z_sald dL_law_543 rfl (by omega) (by omega) ?_
  refine z_sload_n dL_law_544 rfl ?_
  refine z_iload_n dL_law_545 rfl ?_
  refine z_iconst dL_law_546 (by decide) ?_
  refine z_iadd dL_law_547 (by omega) ?_
  refine z_sald dL_law_548 rfl (by omega) (by omega) ?_
  refine z_sload_n dL_law_549 rfl ?_
  refine z_iload_n dL_law_550 rfl ?_
  refine z_iconst dL_law_551 (by decide) ?_
  refine z_iadd dL_law_552 (by omega) ?_
  refine z_sald dL_law_553 rfl (by omega) (by omega) ?_
  refine z_sload_n dL_law_554 rfl ?_
  refine z_iload_n dL_law_555 rfl ?_
  refine z_bipush dL_law_556 (by decide) ?_
  refine z_iadd dL_law_558 (by omega) ?_
  refine z_sald dL_law_559 rfl (by omega) (by omega) ?_
  refine z_V6i dL_law_560 ok_X12_span lk_L_51 (by first | rfl | assumption) rfl rfl (Nat.le_of_ble_eq_true rfl) (by decide) (cm_X12_span hM1.1 rF hM1.2.2.2.2.2.1 o1 o2) (fun z2 m2 q2 => ?_)
  have fin : z1 = z2 ∧ lwI m2 := ⟨an_uniq q1.1 q2.1, nf, fd, np, pr, nw, wd, fr, bk, mo, a, b, cS.lo hS1 (fun x hx => q2.2.1.1 x (by omega)), hM1.kf (fun x hx => q2.2.1.1 x (by omega)) (fun j hj => q2.2.1.2 j (by omega) (by omega) (by omega) (by omega)) q2.2.2, hR⟩
  refine z_icmp_eq 1411 dL_law_563 (by decide) (fun h563 => ?_) (fun h563 => ?_)
  · exact kk _ fin.2
  · exact absurd fin.1 h563
theorem lc_8 {X : Nat × (Int → Int)} {i : Nat} {m : Mem} {Q : zPost} (hi : i + 7 ≤ X.1) (hL : X.1 ≤ 3584) (hI : lwI m) (kk : ∀ m', lwI m' → ZZ X (0, 0) 12 mL_law G0 1411 [vc 2, vr 0, vr 88, vi (i : Int)] [] m' Q) : ZZ X (0, 0) 12 mL_law G0 568 [vc 2, vr 0, vr 88, vi (i : Int)] [] m Q := by
  have hI0 := hI
  obtain ⟨nf, fd, np, pr, nw, wd, fr, bk, mo, a, b, hS, hM, hR⟩ := hI
  have hS0 := hS
  obtain ⟨hC, hwc, hw0⟩ := hS0
  have hR0 := hR
  obtain ⟨rF, rP, rFr, rB, rW, o1, o2⟩ := hR0
  refine z_aload_n dL_law_568 rfl ?_
  refine z_sload_n dL_law_569 rfl ?_
  refine z_iload_n dL_law_570 rfl ?_
  refine z_iconst dL_law_571 (by decide) ?_
  refine z_iadd dL_law_572 (by omega) ?_
  refine z_sald dL_law_573 rfl (by omega) (by omega) ?_
  refine z_sload_n dL_law_574 rfl ?_
  refine z_iload_n dL_law_575 rfl ?_
  refine z_iconst dL_law_576 (by decide) ?_
  refine z_iadd dL_law_577 (by omega) ?_
  refine z_sald dL_law_578 rfl (by omega) (by omega) ?_
  refine z_sload_n dL_law_579 rfl ?_
  refine z_iload_n dL_law_580 rfl ?_
  refine z_iconst dL_law_581 (by decide) ?_
  refine z_iadd dL_law_582 (by omega) ?_
  refine z_sald dL_law_583 rfl (by omega) (by omega) ?_
  refine z_sload_n dL_law_584 rfl ?_
  refine z_iload_n dL_law_585 rfl ?_
  refine z_iconst dL_law_586 (by decide) ?_
  refine z_iadd dL_law_587 (by omega) ?_
  refine z_sald dL_law_588 rfl (by omega) (by omega) ?_
  refine z_V4i dL_law_589 ok_X11_told lk_L_52 (by first | rfl | assumption) rfl rfl (Nat.le_of_ble_eq_true rfl) (by decide) (cm_X11_told hC.1 rF hC.2.2.2.2.2.1 o1 o2) (fun z1 m1 q1 => ?_)
  have k1 : ∀ x, (88 ≤ x ∧ x < 105) ∨ x = 32 → m1 x = m x := fun x hx => q1.2 x (by omega)
  have hS1 := hS.keep (m1 := m1) (fun x hx => q1.2 x (by omega))
  have hM1 := hM.hi k1
  refine z_aload_n dL_law_592 rfl ?_
  refine z_sload_n dL_law_593 rfl ?_
  refine z_iload_n dL_law_594 rfl ?_
  refine z_iconst dL_law_595 (by decide) ?_
  refine z_iadd dL_law_596 (by omega) ?_
  refine z_sald dL_law_597 rfl (by omega) (by omega) ?_
  refine z_sload_n dL_law_598 rfl ?_
  refine z_iload_n dL_law_599 rfl ?_
  refine z_iconst dL_law_600 (by decide) ?_
  refine z_iadd dL_law_601 (by omega) ?_
  refine z_sald dL_law_602 rfl (by omega) (by omega) ?_
  refine z_sload_n dL_law_603 rfl ?_
  refine z_iload_n dL_law_604 rfl ?_
  refine z_iconst dL_law_605 (by decide) ?_
  refine z_iadd dL_law_606 (by omega) ?_
  refine z_sald dL_law_607 rfl (by omega) (by omega) ?_
  refine z_sload_n dL_law_608 rfl ?_
  refine z_iload_n dL_law_609 rfl ?_
  refine z_iconst dL_law_610 (by decide) ?_
  refine z_iadd dL_law_611 (by omega) ?_
  refine z_sald dL_law_612 rfl (by omega) (by omega) ?_
  refine z_V4i dL_law_613 ok_X12_told lk_L_55 (by first | rfl | assumption) rfl rfl (Nat.le_of_ble_eq_true rfl) (by decide) (cm_X12_told hM1.1 rF hM1.2.2.2.2.2.1 o1 o2) (fun z2 m2 q2 => ?_)
  have fin : z1 = z2 ∧ lwI m2 := ⟨an_uniq q1.1 q2.1, nf, fd, np, pr, nw, wd, fr, bk, mo, a, b, cS.lo hS1 (fun x hx => q2.2.1.1 x (by omega)), hM1.kf (fun x hx => q2.2.1.1 x (by omega)) (fun j hj => q2.2.1.2 j (by omega) (by omega) (by omega) (by omega)) q2.2.2, hR⟩
  refine z_icmp_eq 1411 dL_law_616 (by decide) (fun h616 => ?_) (fun h616 => ?_)
  · exact kk _ fin.2
  · exact absurd fin.1 h616
theorem lc_9 {X : Nat × (Int → Int)} {i : Nat} {m : Mem} {Q : zPost} (hi : i + 7 ≤ X.1) (hL : X.1 ≤ 3584) (hI : lwI m) (kk : ∀ m', lwI m' → ZZ X (0, 0) 12 mL_law G0 1411 [vc 2, vr 0, vr 88, vi (i : Int)] [] m' Q) : ZZ X (0, 0) 12 mL_law G0 621 [vc 2, vr 0, vr 88, vi (i : Int)] [] m Q := by
  have hI0 := hI
  obtain ⟨nf, fd, np, pr, nw, wd, fr, bk, mo, a, b, hS, hM, hR⟩ := hI
  have hS0 := hS
  obtain ⟨hC, hwc, hw0⟩ := hS0
  have hR0 := hR
  obtain ⟨rF, rP, rFr, rB, rW, o1, o2⟩ := hR0
  refine z_aload_n dL_law_621 rfl ?_
  refine z_sload_n dL_law_622 rfl ?_
  refine z_iload_n dL_law_623 rfl ?_
  refine z_iconst dL_law_624 (by decide) ?_
  refine z_iadd dL_law_625 (by omega) ?_
  refine z_sald dL_law_626 rfl (by omega) (by omega) ?_
  refine z_sload_n dL_law_627 rfl ?_
  refine z_iload_n dL_law_628 rfl ?_
  refine z_iconst dL_law_629 (by decide) ?_
  refine z_iadd dL_law_630 (by omega) ?_
  refine z_sald dL_law_631 rfl (by omega) (by omega) ?_
  refine z_sload_n dL_law_632 rfl ?_
  refine z_iload_n dL_law_633 rfl ?_
  refine z_iconst dL_law_634 (by decide) ?_
  refine z_iadd dL_law_635 (by omega) ?_
  refine z_sald dL_law_636 rfl (by omega) (by omega) ?_
  refine z_V3i dL_law_637 ok_X11_far lk_L_56 (by first | rfl | assumption) rfl rfl (Nat.le_of_ble_eq_true rfl) (by decide) (cm_X11_far hC.1 rF hC.2.2.2.2.2.1 o1 o2) (fun z1 m1 q1 => ?_)
  have k1 : ∀ x, (88 ≤ x ∧ x < 105) ∨ x = 32 → m1 x = m x := fun x hx => q1.2 x (by omega)
  have hS1 := hS.keep (m1 := m1) (fun x hx => q1.2 x (by omega))
  have hM1 := hM.hi k1
  refine z_aload_n dL_law_640 rfl ?_
  refine z_sload_n dL_law_641 rfl ?_
  refine z_iload_n dL_law_642 rfl ?_
  refine z_iconst dL_law_643 (by decide) ?_
  refine z_iadd dL_law_644 (by omega) ?_
  refine z_sald dL_law_645 rfl (by omega) (by omega) ?_
  refine z_sload_n dL_law_646 rfl ?_
  refine z_iload_n dL_law_647 rfl ?_
  refine z_iconst dL_law_648 (by decide) ?_
  refine z_iadd dL_law_649 (by omega) ?_
  refine z_sald dL_law_650 rfl (by omega) (by omega) ?_
  refine z_sload_n dL_law_651 rfl ?_
  refine z_iload_n dL_law_652 rfl ?_
  refine z_iconst dL_law_653 (by decide) ?_
  refine z_iadd dL_law_654 (by omega) ?_
  refine z_sald dL_law_655 rfl (by omega) (by omega) ?_
  refine z_V3i dL_law_656 ok_X12_far lk_L_59 (by first | rfl | assumption) rfl rfl (Nat.le_of_ble_eq_true rfl) (by decide) (cm_X12_far hM1.1 rF hM1.2.2.2.2.2.1 o1 o2) (fun z2 m2 q2 => ?_)
  have fin : z1 = z2 ∧ lwI m2 := ⟨fa_uniq q1.1 q2.1, nf, fd, np, pr, nw, wd, fr, bk, mo, a, b, cS.lo hS1 (fun x hx => q2.2.1.1 x (by omega)), hM1.kf (fun x hx => q2.2.1.1 x (by omega)) (fun j hj => q2.2.1.2 j (by omega) (by omega) (by omega) (by omega)) q2.2.2, hR⟩
  refine z_icmp_eq 1411 dL_law_659 (by decide) (fun h659 => ?_) (fun h659 => ?_)
  · exact kk _ fin.2
  · exact absurd fin.1 h659
theorem lc_10 {X : Nat × (Int → Int)} {i : Nat} {m : Mem} {Q : zPost} (hi : i + 7 ≤ X.1) (hL : X.1 ≤ 3584) (hI : lwI m) (kk : ∀ m', lwI m' → ZZ X (0, 0) 12 mL_law G0 1411 [vc 2, vr 0, vr 88, vi (i : Int)] [] m' Q) : ZZ X (0, 0) 12 mL_law G0 664 [vc 2, vr 0, vr 88, vi (i : Int)] [] m Q := by
  have hI0 := hI
  obtain ⟨nf, fd, np, pr, nw, wd, fr, bk, mo, a, b, hS, hM, hR⟩ := hI
  have hS0 := hS
  obtain ⟨hC, hwc, hw0⟩ := hS0
  have hR0 := hR
  obtain ⟨rF, rP, rFr, rB, rW, o1, o2⟩ := hR0
  refine z_aload_n dL_law_664 rfl ?_
  refine z_sload_n dL_law_665 rfl ?_
  refine z_iload_n dL_law_666 rfl ?_
  refine z_iconst dL_law_667 (by decide) ?_
  refine z_iadd dL_law_668 (by omega) ?_
  refine z_sald dL_law_669 rfl (by omega) (by omega) ?_
  refine z_sload_n dL_law_670 rfl ?_
  refine z_iload_n dL_law_671 rfl ?_
  refine z_iconst dL_law_672 (by decide) ?_
  refine z_iadd dL_law_673 (by omega) ?_
  refine z_sald dL_law_674 rfl (by omega) (by omega) ?_
  refine z_V2i dL_law_675 ok_X11_moulds lk_L_60 (by first | rfl | assumption) rfl rfl (Nat.le_of_ble_eq_true rfl) (by decide) (cm_X11_moulds hC.1 rF) (fun z1 m1 q1 => ?_)
  have k1 : ∀ x, (88 ≤ x ∧ x < 105) ∨ x = 32 → m1 x = m x := fun x hx => by rw [q1.2]
  have hS1 := hS.keep (m1 := m1) (fun x hx => by rw [q1.2])
  have hM1 := hM.hi k1
  refine z_aload_n dL_law_678 rfl ?_
  refine z_sload_n dL_law_679 rfl ?_
  refine z_iload_n dL_law_680 rfl ?_
  refine z_iconst dL_law_681 (by decide) ?_
  refine z_iadd dL_law_682 (by omega) ?_
  refine z_sald dL_law_683 rfl (by omega) (by omega) ?_
  refine z_sload_n dL_law_684 rfl ?_
  refine z_iload_n dL_law_685 rfl ?_
  refine z_iconst dL_law_686 (by decide) ?_
  refine z_iadd dL_law_687 (by omega) ?_
  refine z_sald dL_law_688 rfl (by omega) (by omega) ?_
  refine z_V2i dL_law_689 ok_X12_moulds lk_L_63 (by first | rfl | assumption) rfl rfl (Nat.le_of_ble_eq_true rfl) (by decide) (cm_X12_moulds hM1.1 rF) (fun z2 m2 q2 => ?_)
  have fin : z1 = z2 ∧ lwI m2 := ⟨q1.1.trans q2.1.symm, nf, fd, np, pr, nw, wd, fr, bk, mo, a, b, cS.lo hS1 (fun x hx => by rw [q2.2]), (by rw [q2.2]; exact hM1), hR⟩
  refine z_icmp_eq 1411 dL_law_692 (by decide) (fun h692 => ?_) (fun h692 => ?_)
  · exact kk _ fin.2
  · exact absurd fin.1 h692
