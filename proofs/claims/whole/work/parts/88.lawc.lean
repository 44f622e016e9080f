/-! ===== the law's calls, further ===== -/
theorem lc_22 {X : Nat × (Int → Int)} {i : Nat} {m : Mem} {Q : zPost} (hi : i + 7 ≤ X.1) (hL : X.1 ≤ 3584) (hI : lwI m) (kk : ∀ m', lwI m' → ZZ X (0, 0) 12 mL_law G0 1411 [vc 2, vr 0, vr 88, vi (i : Int)] [] m' Q) : ZZ X (0, 0) 12 mL_law G0 1090 [vc 2, vr 0, vr 88, vi (i : Int)] [] m Q := by
  have hI0 := hI
  obtain ⟨nf, fd, np, pr, nw, wd, fr, bk, mo, a, b, hS, hM, hR⟩ := hI
  have hS0 := hS
  obtain ⟨hC, hwc, hw0⟩ := hS0
  have hR0 := hR
  obtain ⟨rF, rP, rFr, rB, rW, o1, o2⟩ := hR0
  refine z_aload_n dL_law_1090 rfl ?_
  refine z_sload_n dL_law_1091 rfl ?_
  refine z_iload_n dL_law_1092 rfl ?_
  refine z_iconst dL_law_1093 (by decide) ?_
  refine z_iadd dL_law_1094 (by omega) ?_
  refine z_sald dL_law_1095 rfl (by omega) (by omega) ?_
  refine z_sload_n dL_law_1096 rfl ?_
  refine z_iload_n dL_law_1097 rfl ?_
  refine z_iconst dL_law_1098 (by decide) ?_
  refine z_iadd dL_law_1099 (by omega) ?_
  refine z_sald dL_law_1100 rfl (by omega) (by omega) ?_
  refine z_V2i dL_law_1101 ok_X11_agent lk_L_109 (by first | rfl | assumption) rfl rfl (Nat.le_of_ble_eq_true rfl) (by decide) (cm_X11_agent hC.2.1 rP) (fun z1 m1 q1 => ?_)
  have d1 := tri3 (Classical.em _) q1
  have k1 : ∀ x, (88 ≤ x ∧ x < 105) ∨ x = 32 → m1 x = m x := by
    intro x hx
    rcases d1 with ⟨-, -, e⟩ | ⟨-, -, -, e⟩ | ⟨-, -, -, -, e, -⟩
    · rw [e]
    · exact e.1 x (by omega)
    · exact e x (by omega) (by omega)
  have hM1 := hM.hi k1
  refine z_aload_n dL_law_1104 rfl ?_
  refine z_sload_n dL_law_1105 rfl ?_
  refine z_iload_n dL_law_1106 rfl ?_
  refine z_iconst dL_law_1107 (by decide) ?_
  refine z_iadd dL_law_1108 (by omega) ?_
  refine z_sald dL_law_1109 rfl (by omega) (by omega) ?_
  refine z_sload_n dL_law_1110 rfl ?_
  refine z_iload_n dL_law_1111 rfl ?_
  refine z_iconst dL_law_1112 (by decide) ?_
  refine z_iadd dL_law_1113 (by omega) ?_
  refine z_sald dL_law_1114 rfl (by omega) (by omega) ?_
  refine z_V2i dL_law_1115 ok_X12_agent lk_L_112 (by first | rfl | assumption) rfl rfl (Nat.le_of_ble_eq_true rfl) (by decide) (cm_X12_agent hM1.2.1 rP) (fun z2 m2 q2 => ?_)
  have fin : z1 = z2 ∧ lwI m2 := by
    rcases d1 with ⟨h1, e1, e2⟩ | ⟨h1, h2, e1, e2⟩ | ⟨h1, h2, e1, e2, e3, e4⟩
    · obtain ⟨g1, g2⟩ := q2.1 h1
      exact ⟨e1.trans g1.symm, by rw [g2, e2]; exact hI0⟩
    · obtain ⟨g1, g2⟩ := q2.2.1 h1 h2
      exact ⟨e1.trans g1.symm, nf, fd, np, pr, nw, wd, fr, bk, mo, a, b, cS.lo (hS.newF (m1 := m1) (fun x hx => e2.1 x (by omega)) (e2.2 3 (by omega)) (hw0.same (e2.1 36 (by omega))) (hC.2.2.2.2.2.2.kp fun x _ _ => e2.1 x (by omega))) (fun x hx => g2.1 x (by omega)), hM1.all (fun x hx => g2.1 x (by omega)) (fun j hj => g2.2 j (by omega)), hR⟩
    · obtain ⟨g1, ⟨g2, g3⟩, g4, g5⟩ := q2.2.2 h1 h2
      exact ⟨e1.trans g1.symm, nf, fd, np, pr, nw, wd, fr, bk, mo, _, _, cS.lo (hS.newF (m1 := m1) (fun x hx => e3 x (by omega) (by omega)) (e4 3 (by omega)) (hw0.same (e3 36 (by omega) (by omega))) e2) (fun x hx => g4 x (by omega) (by omega) (by omega)), hM1.off (fun x hx => g4 x (by omega) (by omega) (by omega)) (fun j hj => g5 j (by omega)) g2 g3, hR⟩
  refine z_icmp_eq 1411 dL_law_1118 (by decide) (fun h1118 => ?_) (fun h1118 => ?_)
  · exact kk _ fin.2
  · exact absurd fin.1 h1118
theorem lc_23 {X : Nat × (Int → Int)} {i : Nat} {m : Mem} {Q : zPost} (hi : i + 7 ≤ X.1) (hL : X.1 ≤ 3584) (hI : lwI m) (kk : ∀ m', lwI m' → ZZ X (0, 0) 12 mL_law G0 1411 [vc 2, vr 0, vr 88, vi (i : Int)] [] m' Q) : ZZ X (0, 0) 12 mL_law G0 1123 [vc 2, vr 0, vr 88, vi (i : Int)] [] m Q := by
  have hI0 := hI
  obtain ⟨nf, fd, np, pr, nw, wd, fr, bk, mo, a, b, hS, hM, hR⟩ := hI
  have hS0 := hS
  obtain ⟨hC, hwc, hw0⟩ := hS0
  have hR0 := hR
  obtain ⟨rF, rP, rFr, rB, rW, o1, o2⟩ := hR0
  refine z_aload_n dL_law_1123 rfl ?_
  refine z_sload_n dL_law_1124 rfl ?_
  refine z_iload_n dL_law_1125 rfl ?_
  refine z_iconst dL_law_1126 (by decide) ?_
  refine z_iadd dL_law_1127 (by omega) ?_
  refine z_sald dL_law_1128 rfl (by omega) (by omega) ?_
  refine z_sload_n dL_law_1129 rfl ?_
  refine z_iload_n dL_law_1130 rfl ?_
  refine z_iconst dL_law_1131 (by decide) ?_
  refine z_iadd dL_law_1132 (by omega) ?_
  refine z_sald dL_law_1133 rfl (by omega) (by omega) ?_
  refine z_V2i dL_law_1134 ok_X11_putRight lk_L_113 (by first | rfl | assumption) rfl rfl (Nat.le_of_ble_eq_true rfl) (by decide) (cm_X11_putRight hC.2.1 rP) (fun z1 m1 q1 => ?_)
  have d1 := tri3 (Classical.em _) q1
  have k1 : ∀ x, (88 ≤ x ∧ x < 105) ∨ x = 32 → m1 x = m x := by
    intro x hx
    rcases d1 with ⟨-, -, e⟩ | ⟨-, -, -, e⟩ | ⟨-, -, -, -, e, -⟩
    · rw [e]
    · exact e.1 x (by omega)
    · exact e x (by omega) (by omega)
  have hM1 := hM.hi k1
  refine z_aload_n dL_law_1137 rfl ?_
  refine z_sload_n dL_law_1138 rfl ?_
  refine z_iload_n dL_law_1139 rfl ?_
  refine z_iconst dL_law_1140 (by decide) ?_
  refine z_iadd dL_law_1141 (by omega) ?_
  refine z_sald dL_law_1142 rfl (by omega) (by omega) ?_
  refine z_sload_n dL_law_1143 rfl ?_
  refine z_iload_n dL_law_1144 rfl ?_
  refine z_iconst dL_law_1145 (by decide) ?_
  refine z_iadd dL_law_1146 (by omega) ?_
  refine z_sald dL_law_1147 rfl (by omega) (by omega) ?_
  refine z_V2i dL_law_1148 ok_X12_putRight lk_L_116 (by first | rfl | assumption) rfl rfl (Nat.le_of_ble_eq_true rfl) (by decide) (cm_X12_putRight hM1.2.1 rP) (fun z2 m2 q2 => ?_)
  have fin : z1 = z2 ∧ lwI m2 := by
    rcases d1 with ⟨h1, e1, e2⟩ | ⟨h1, h2, e1, e2⟩ | ⟨h1, h2, e1, e2, e3, e4⟩
    · obtain ⟨g1, g2⟩ := q2.1 h1
      exact ⟨e1.trans g1.symm, by rw [g2, e2]; exact hI0⟩
    · obtain ⟨g1, g2⟩ := q2.2.1 h1 h2
      exact ⟨e1.trans g1.symm, nf, fd, np, pr, nw, wd, fr, bk, mo, a, b, cS.lo (hS.newF (m1 := m1) (fun x hx => e2.1 x (by omega)) (e2.2 3 (by omega)) (hw0.same (e2.1 36 (by omega))) (hC.2.2.2.2.2.2.kp fun x _ _ => e2.1 x (by omega))) (fun x hx => g2.1 x (by omega)), hM1.all (fun x hx => g2.1 x (by omega)) (fun j hj => g2.2 j (by omega)), hR⟩
    · obtain ⟨g1, ⟨g2, g3⟩, g4, g5⟩ := q2.2.2 h1 h2
      exact ⟨e1.trans g1.symm, nf, fd, np, pr, nw, wd, fr, bk, mo, _, _, cS.lo (hS.newF (m1 := m1) (fun x hx => e3 x (by omega) (by omega)) (e4 3 (by omega)) (hw0.same (e3 36 (by omega) (by omega))) e2) (fun x hx => g4 x (by omega) (by omega) (by omega)), hM1.off (fun x hx => g4 x (by omega) (by omega) (by omega)) (fun j hj => g5 j (by omega)) g2 g3, hR⟩
  refine z_icmp_eq 1411 dL_law_1151 (by decide) (fun h1151 => ?_) (fun h1151 => ?_)
  · exact kk _ fin.2
  · exact absurd fin.1 h1151
theorem lc_24 {X : Nat × (Int → Int)} {i : Nat} {m : Mem} {Q : zPost} (hi : i + 7 ≤ X.1) (hL : X.1 ≤ 3584) (hI : lwI m) (kk : ∀ m', lwI m' → ZZ X (0, 0) 12 mL_law G0 1411 [vc 2, vr 0, vr 88, vi (i : Int)] [] m' Q) : ZZ X (0, 0) 12 mL_law G0 1156 [vc 2, vr 0, vr 88, vi (i : Int)] [] m Q := by
  have hI0 := hI
  obtain ⟨nf, fd, np, pr, nw, wd, fr, bk, mo, a, b, hS, hM, hR⟩ := hI
  have hS0 := hS
  obtain ⟨hC, hwc, hw0⟩ := hS0
  have hR0 := hR
  obtain ⟨rF, rP, rFr, rB, rW, o1, o2⟩ := hR0
  refine z_aload_n dL_law_1156 rfl ?_
  refine z_sload_n dL_law_1157 rfl ?_
  refine z_iload_n dL_law_1158 rfl ?_
  refine z_iconst dL_law_1159 (by decide) ?_
  refine z_iadd dL_law_1160 (by omega) ?_
  refine z_sald dL_law_1161 rfl (by omega) (by omega) ?_
  refine z_sload_n dL_law_1162 rfl ?_
  refine z_iload_n dL_law_1163 rfl ?_
  refine z_iconst dL_law_1164 (by decide) ?_
  refine z_iadd dL_law_1165 (by omega) ?_
  refine z_sald dL_law_1166 rfl (by omega) (by omega) ?_
  refine z_sload_n dL_law_1167 rfl ?_
  refine z_iload_n dL_law_1168 rfl ?_
  refine z_iconst dL_law_1169 (by decide) ?_
  refine z_iadd dL_law_1170 (by omega) ?_
  refine z_sald dL_law_1171 rfl (by omega) (by omega) ?_
  refine z_V3i dL_law_1172 ok_X11_front lk_L_117 (by first | rfl | assumption) rfl rfl (Nat.le_of_ble_eq_true rfl) (by decide) (cm_X11_front hC.2.2.2.1) (fun z1 m1 q1 => ?_)
  have d1 := two2 q1
  have k1 : ∀ x, (88 ≤ x ∧ x < 105) ∨ x = 32 → m1 x = m x := by
    intro x hx
    rcases d1 with ⟨-, -, e⟩ | ⟨-, -, -, e⟩
    · rw [e]
    · exact e x (by omega) (by omega)
  have hM1 := hM.hi k1
  refine z_aload_n dL_law_1175 rfl ?_
  refine z_sload_n dL_law_1176 rfl ?_
  refine z_iload_n dL_law_1177 rfl ?_
  refine z_iconst dL_law_1178 (by decide) ?_
  refine z_iadd dL_law_1179 (by omega) ?_
  refine z_sald dL_law_1180 rfl (by omega) (by omega) ?_
  refine z_sload_n dL_law_1181 rfl ?_
  refine z_iload_n dL_law_1182 rfl ?_
  refine z_iconst dL_law_1183 (by decide) ?_
  refine z_iadd dL_law_1184 (by omega) ?_
  refine z_sald dL_law_1185 rfl (by omega) (by omega) ?_
  refine z_sload_n dL_law_1186 rfl ?_
  refine z_iload_n dL_law_1187 rfl ?_
  refine z_iconst dL_law_1188 (by decide) ?_
  refine z_iadd dL_law_1189 (by omega) ?_
  refine z_sald dL_law_1190 rfl (by omega) (by omega) ?_
  refine z_V3i dL_law_1191 ok_X12_front lk_L_120 (by first | rfl | assumption) rfl rfl (Nat.le_of_ble_eq_true rfl) (by decide) (cm_X12_front hM1.2.2.2.1) (fun z2 m2 q2 => ?_)
  have fin : z1 = z2 ∧ lwI m2 := by
    rcases d1 with ⟨no, e1, e2⟩ | ⟨ok, e1, f1, e2⟩
    · obtain ⟨g1, g2⟩ := q2.1 no
      exact ⟨e1.trans g1.symm, by rw [g2, e2]; exact hI0⟩
    · obtain ⟨g1, f2, g2⟩ := q2.2 ok
      refine ⟨e1.trans g1.symm, nf, fd, np, pr, nw, wd, _, bk, mo, a, b, cS.lo (m1 := m1) ⟨⟨hC.1.off fun x _ _ => e2 x (by omega) (by omega), hC.2.1.same fun x _ _ => e2 x (by omega) (by omega), hC.2.2.1.same fun x _ _ => e2 x (by omega) (by omega), f1, hC.2.2.2.2.1.same fun x _ _ => e2 x (by omega) (by omega), by rw [e2 0 (by decide) (by decide)]; exact hC.2.2.2.2.2.1, hC.2.2.2.2.2.2.kp fun x _ _ => e2 x (by omega) (by omega)⟩, hwc.same (e2 22 (by decide) (by decide)) (e2 27 (by decide) (by decide)), hw0.same (e2 36 (by decide) (by decide))⟩ (fun x hx => g2 x (by omega)), ⟨hM1.1.off (by rw [g2 88 (by decide)]) (g2 91 (by decide)), hM1.2.1.same (by rw [g2 88 (by decide)]) (g2 102 (by decide)), hM1.2.2.1.same (by rw [g2 88 (by decide)]) (g2 95 (by decide)), f2, hM1.2.2.2.2.1.same (g2 32 (by decide)), by rw [g2 88 (by decide)]; exact hM1.2.2.2.2.2.1, hM1.2.2.2.2.2.2.1.kp (g2 89 (by decide)) (g2 90 (by decide)), hM1.2.2.2.2.2.2.2.kp (g2 89 (by decide)) (g2 90 (by decide))⟩, ⟨rF, rP, frR_put rFr ok, rB, rW, o1, o2⟩⟩
  refine z_icmp_eq 1411 dL_law_1194 (by decide) (fun h1194 => ?_) (fun h1194 => ?_)
  · exact kk _ fin.2
  · exact absurd fin.1 h1194
theorem lc_25 {X : Nat × (Int → Int)} {i : Nat} {m : Mem} {Q : zPost} (hi : i + 7 ≤ X.1) (hL : X.1 ≤ 3584) (hI : lwI m) (kk : ∀ m', lwI m' → ZZ X (0, 0) 12 mL_law G0 1411 [vc 2, vr 0, vr 88, vi (i : Int)] [] m' Q) : ZZ X (0, 0) 12 mL_law G0 1199 [vc 2, vr 0, vr 88, vi (i : Int)] [] m Q := by
  have hI0 := hI
  obtain ⟨nf, fd, np, pr, nw, wd, fr, bk, mo, a, b, hS, hM, hR⟩ := hI
  have hS0 := hS
  obtain ⟨hC, hwc, hw0⟩ := hS0
  have hR0 := hR
  obtain ⟨rF, rP, rFr, rB, rW, o1, o2⟩ := hR0
  refine z_aload_n dL_law_1199 rfl ?_
  refine z_sload_n dL_law_1200 rfl ?_
  refine z_iload_n dL_law_1201 rfl ?_
  refine z_iconst dL_law_1202 (by decide) ?_
  refine z_iadd dL_law_1203 (by omega) ?_
  refine z_sald dL_law_1204 rfl (by omega) (by omega) ?_
  refine z_V1i dL_law_1205 ok_X11_lost lk_L_121 (by first | rfl | assumption) rfl rfl (Nat.le_of_ble_eq_true rfl) (by decide) (cm_X11_lost hC.1 hC.2.2.2.1 rFr) (fun z1 m1 q1 => ?_)
  have d1 := two2 q1
  have k1 : ∀ x, (88 ≤ x ∧ x < 105) ∨ x = 32 → m1 x = m x := by
    intro x hx
    rcases d1 with ⟨-, -, e⟩ | ⟨-, -, -, e⟩
    · rw [e]
    · exact e x (by omega)
  have hM1 := hM.hi k1
  refine z_aload_n dL_law_1208 rfl ?_
  refine z_sload_n dL_law_1209 rfl ?_
  refine z_iload_n dL_law_1210 rfl ?_
  refine z_iconst dL_law_1211 (by decide) ?_
  refine z_iadd dL_law_1212 (by omega) ?_
  refine z_sald dL_law_1213 rfl (by omega) (by omega) ?_
  refine z_V1i dL_law_1214 ok_X12_lost lk_L_124 (by first | rfl | assumption) rfl rfl (Nat.le_of_ble_eq_true rfl) (by decide) (cm_X12_lost hM1.1 hM1.2.2.2.1 rFr) (fun z2 m2 q2 => ?_)
  have fin : z1 = z2 ∧ lwI m2 := by
    rcases d1 with ⟨no, e1, e2⟩ | ⟨ok, e1, e2, e3⟩
    · obtain ⟨g1, g2⟩ := q2.1 no
      exact ⟨e1.trans g1.symm, by rw [g2, e2]; exact hI0⟩
    · obtain ⟨g1, ⟨g2, g3⟩, g4⟩ := q2.2 ok
      exact ⟨e1.trans g1.symm, nf, fd, np, pr, nw, wd, fr, bk, mo, _, _, cS.lo (hS.newF (m1 := m1) (fun x hx => e3 x (by omega)) (by rw [e3 68 (by omega)]) (hw0.same (e3 36 (by omega))) e2) (fun x hx => g4 x (by omega) (by omega)), hM1.off (fun x hx => g4 x (by omega) (by omega)) (fun j _ => by rw [g4 88 (by decide) (by decide)]) g2 g3, hR⟩
  refine z_icmp_eq 1411 dL_law_1217 (by decide) (fun h1217 => ?_) (fun h1217 => ?_)
  · exact kk _ fin.2
  · exact absurd fin.1 h1217
theorem lc_26 {X : Nat × (Int → Int)} {i : Nat} {m : Mem} {Q : zPost} (hi : i + 7 ≤ X.1) (hL : X.1 ≤ 3584) (hI : lwI m) (kk : ∀ m', lwI m' → ZZ X (0, 0) 12 mL_law G0 1411 [vc 2, vr 0, vr 88, vi (i : Int)] [] m' Q) : ZZ X (0, 0) 12 mL_law G0 1222 [vc 2, vr 0, vr 88, vi (i : Int)] [] m Q := by
  have hI0 := hI
  obtain ⟨nf, fd, np, pr, nw, wd, fr, bk, mo, a, b, hS, hM, hR⟩ := hI
  have hS0 := hS
  obtain ⟨hC, hwc, hw0⟩ := hS0
  have hR0 := hR
  obtain ⟨rF, rP, rFr, rB, rW, o1, o2⟩ := hR0
  refine z_aload_n dL_law_1222 rfl ?_
  refine z_sload_n dL_law_1223 rfl ?_
  refine z_iload_n dL_law_1224 rfl ?_
  refine z_iconst dL_law_1225 (by decide) ?_
  refine z_iadd dL_law_1226 (by omega) ?_
  refine z_sald dL_law_1227 rfl (by omega) (by omega) ?_
  refine z_sload_n dL_law_1228 rfl ?_
  refine z_iload_n dL_law_1229 rfl ?_
  refine z_iconst dL_law_1230 (by decide) ?_
  refine z_iadd dL_law_1231 (by omega) ?_
  refine z_sald dL_law_1232 rfl (by omega) (by omega) ?_
  refine z_sload_n dL_law_1233 rfl ?_
  refine z_iload_n dL_law_1234 rfl ?_
  refine z_iconst dL_law_1235 (by decide) ?_
  refine z_iadd dL_law_1236 (by omega) ?_
  refine z_sald dL_law_1237 rfl (by omega) (by omega) ?_
  refine z_sload_n dL_law_1238 rfl ?_
  refine z_iload_n dL_law_1239 rfl ?_
  refine z_iconst dL_law_1240 (by decide) ?_
  refine z_iadd dL_law_1241 (by omega) ?_
  refine z_sald dL_law_1242 rfl (by omega) (by omega) ?_
  refine z_V4i dL_law_1243 ok_X11_book lk_L_125 (by first | rfl | assumption) rfl rfl (Nat.le_of_ble_eq_true rfl) (by decide) (cm_X11_book hC.2.2.2.2.1) (fun z1 m1 q1 => ?_)
  have d1 := two2 q1
  have k1 : ∀ x, (88 ≤ x ∧ x < 105) ∨ x = 32 → m1 x = m x := by
    intro x hx
    rcases d1 with ⟨-, -, e⟩ | ⟨-, -, -, e⟩
    · rw [e]
    · exact e x (by omega)
  have hM1 := hM.hi k1
  refine z_aload_n dL_law_1246 rfl ?_
  refine z_sload_n dL_law_1247 rfl ?_
  refine z_iload_n dL_law_1248 rfl ?_
  refine z_iconst dL_law_1249 (by decide) ?_
  refine z_iadd dL_law_1250 (by omega) ?_
  refine z_sald dL_law_1251 rfl (by omega) (by omega) ?_
  refine z_sload_n dL_law_1252 rfl ?_
  refine z_iload_n dL_law_1253 rfl ?_
  refine z_iconst dL_law_1254 (by decide) ?_
  refine z_iadd dL_law_1255 (by omega) ?_
  refine z_sald dL_law_1256 rfl (by omega) (by omega) ?_
  refine z_sload_n dL_law_1257 rfl ?_
  refine z_iload_n dL_law_1258 rfl ?_
  refine z_iconst dL_law_1259 (by decide) ?_
  refine z_iadd dL_law_1260 (by omega) ?_
  refine z_sald dL_law_1261 rfl (by omega) (by omega) ?_
  refine z_sload_n dL_law_1262 rfl ?_
  refine z_iload_n dL_law_1263 rfl ?_
  refine z_iconst dL_law_1264 (by decide) ?_
  refine z_iadd dL_law_1265 (by omega) ?_
  refine z_sald dL_law_1266 rfl (by omega) (by omega) ?_
  refine z_V4i dL_law_1267 ok_X12_book lk_L_128 (by first | rfl | assumption) rfl rfl (Nat.le_of_ble_eq_true rfl) (by decide) (cm_X12_book hM1.2.2.2.2.1) (fun z2 m2 q2 => ?_)
  have fin : z1 = z2 ∧ lwI m2 := by
    rcases d1 with ⟨no, e1, e2⟩ | ⟨ok, e1, f1, e2⟩
    · obtain ⟨g1, g2⟩ := q2.1 no
      exact ⟨e1.trans g1.symm, by rw [g2, e2]; exact hI0⟩
    · obtain ⟨g1, f2, g2⟩ := q2.2 ok
      refine ⟨e1.trans g1.symm, nf, fd, np, pr, nw, wd, fr, _, mo, a, b, cS.lo (m1 := m1) ⟨⟨hC.1.off fun x _ _ => e2 x (by omega), hC.2.1.same fun x _ _ => e2 x (by omega), hC.2.2.1.same fun x _ _ => e2 x (by omega), hC.2.2.2.1.same fun x _ _ => e2 x (by omega), f1, by rw [e2 0 (by omega)]; exact hC.2.2.2.2.2.1, hC.2.2.2.2.2.2.kp fun x _ _ => e2 x (by omega)⟩, hwc.same (e2 22 (by omega)) (e2 27 (by omega)), hw0.same (e2 36 (by omega))⟩ (fun x hx => g2 x (by omega)), ⟨hM1.1.off (by rw [g2 88 (by decide)]) (g2 91 (by decide)), hM1.2.1.same (by rw [g2 88 (by decide)]) (g2 102 (by decide)), hM1.2.2.1.same (by rw [g2 88 (by decide)]) (g2 95 (by decide)), hM1.2.2.2.1.same (g2 103 (by decide)), f2, by rw [g2 88 (by decide)]; exact hM1.2.2.2.2.2.1, hM1.2.2.2.2.2.2.1.kp (g2 89 (by decide)) (g2 90 (by decide)), hM1.2.2.2.2.2.2.2.kp (g2 89 (by decide)) (g2 90 (by decide))⟩, ⟨rF, rP, rFr, bkR_put rB ok, rW, o1, o2⟩⟩
  refine z_icmp_eq 1411 dL_law_1270 (by decide) (fun h1270 => ?_) (fun h1270 => ?_)
  · exact kk _ fin.2
  · exact absurd fin.1 h1270
theorem lc_27 {X : Nat × (Int → Int)} {i : Nat} {m : Mem} {Q : zPost} (hi : i + 7 ≤ X.1) (hL : X.1 ≤ 3584) (hI : lwI m) (kk : ∀ m', lwI m' → ZZ X (0, 0) 12 mL_law G0 1411 [vc 2, vr 0, vr 88, vi (i : Int)] [] m' Q) : ZZ X (0, 0) 12 mL_law G0 1275 [vc 2, vr 0, vr 88, vi (i : Int)] [] m Q := by
  have hI0 := hI
  obtain ⟨nf, fd, np, pr, nw, wd, fr, bk, mo, a, b, hS, hM, hR⟩ := hI
  have hS0 := hS
  obtain ⟨hC, hwc, hw0⟩ := hS0
  have hR0 := hR
  obtain ⟨rF, rP, rFr, rB, rW, o1, o2⟩ := hR0
  refine z_aload_n dL_law_1275 rfl ?_
  refine z_sload_n dL_law_1276 rfl ?_
  refine z_iload_n dL_law_1277 rfl ?_
  refine z_iconst dL_law_1278 (by decide) ?_
  refine z_iadd dL_law_1279 (by omega) ?_
  refine z_sald dL_law_1280 rfl (by omega) (by omega) ?_
  refine z_sload_n dL_law_1281 rfl ?_
  refine z_iload_n dL_law_1282 rfl ?_
  refine z_iconst dL_law_1283 (by decide) ?_
  refine z_iadd dL_law_1284 (by omega) ?_
  refine z_sald dL_law_1285 rfl (by omega) (by omega) ?_
  refine z_sload_n dL_law_1286 rfl ?_
  refine z_iload_n dL_law_1287 rfl ?_
  refine z_iconst dL_law_1288 (by decide) ?_
  refine z_iadd dL_law_1289 (by omega) ?_
  refine z_sald dL_law_1290 rfl (by omega) (by omega) ?_
  refine z_V3i dL_law_1291 ok_X11_held lk_L_129 (by first | rfl | assumption) rfl rfl (Nat.le_of_ble_eq_true rfl) (by decide) (cm_X11_held hC.1 rF hC.2.2.2.2.1 rB hC.2.2.2.2.2.1 o1 o2) (fun z1 m1 q1 => ?_)
  have k1 : ∀ x, (88 ≤ x ∧ x < 105) ∨ x = 32 → m1 x = m x := fun x hx => q1.2 x (by omega)
  have hS1 := hS.keep (m1 := m1) (fun x hx => q1.2 x (by omega))
  have hM1 := hM.hi k1
  refine z_aload_n dL_law_1294 rfl ?_
  refine z_sload_n dL_law_1295 rfl ?_
  refine z_iload_n dL_law_1296 rfl ?_
  refine z_iconst dL_law_1297 (by decide) ?_
  refine z_iadd dL_law_1298 (by omega) ?_
  refine z_sald dL_law_1299 rfl (by omega) (by omega) ?_
  refine z_sload_n dL_law_1300 rfl ?_
  refine z_iload_n dL_law_1301 rfl ?_
  refine z_iconst dL_law_1302 (by decide) ?_
  refine z_iadd dL_law_1303 (by omega) ?_
  refine z_sald dL_law_1304 rfl (by omega) (by omega) ?_
  refine z_sload_n dL_law_1305 rfl ?_
  refine z_iload_n dL_law_1306 rfl ?_
  refine z_iconst dL_law_1307 (by decide) ?_
  refine z_iadd dL_law_1308 (by omega) ?_
  refine z_sald dL_law_1309 rfl (by omega) (by omega) ?_
  refine z_V3i dL_law_1310 ok_X12_held lk_L_132 (by first | rfl | assumption) rfl rfl (Nat.le_of_ble_eq_true rfl) (by decide) (cm_X12_held hM1.1 rF hM1.2.2.2.2.1 rB hM1.2.2.2.2.2.1 o1 o2) (fun z2 m2 q2 => ?_)
  have fin : z1 = z2 ∧ lwI m2 := ⟨two_uniq q1.1 q2.1, nf, fd, np, pr, nw, wd, fr, bk, mo, a, b, cS.lo hS1 (fun x hx => q2.2.1.1 x (by omega)), hM1.kf (fun x hx => q2.2.1.1 x (by omega)) (fun j hj => q2.2.1.2 j (by omega) (by omega) (by omega) (by omega)) q2.2.2, hR⟩
  refine z_icmp_eq 1411 dL_law_1313 (by decide) (fun h1313 => ?_) (fun h1313 => ?_)
  · exact kk _ fin.2
  · exact absurd fin.1 h1313
theorem lc_28 {X : Nat × (Int → Int)} {i : Nat} {m : Mem} {Q : zPost} (hi : i + 7 ≤ X.1) (hL : X.1 ≤ 3584) (hI : lwI m) (kk : ∀ m', lwI m' → ZZ X (0, 0) 12 mL_law G0 1411 [vc 2, vr 0, vr 88, vi (i : Int)] [] m' Q) : ZZ X (0, 0) 12 mL_law G0 1318 [vc 2, vr 0, vr 88, vi (i : Int)] [] m Q := by
  have hI0 := hI
  obtain ⟨nf, fd, np, pr, nw, wd, fr, bk, mo, a, b, hS, hM, hR⟩ := hI
  have hS0 := hS
  obtain ⟨hC, hwc, hw0⟩ := hS0
  have hR0 := hR
  obtain ⟨rF, rP, rFr, rB, rW, o1, o2⟩ := hR0
  refine z_aload_n dL_law_1318 rfl ?_
  refine z_sload_n dL_law_1319 rfl ?_
  refine z_iload_n dL_law_1320 rfl ?_
  refine z_iconst dL_law_1321 (by decide) ?_
  refine z_iadd dL_law_1322 (by omega) ?_
  refine z_sald dL_law_1323 rfl (by omega) (by omega) ?_
  refine z_V1i dL_law_1324 ok_X11_sign lk_L_133 (by first | rfl | assumption) rfl rfl (Nat.le_of_ble_eq_true rfl) (by decide) (cm_X11_sign hC.2.2.2.2.2.2) (fun z1 m1 q1 => ?_)
  have k1 : ∀ x, (88 ≤ x ∧ x < 105) ∨ x = 32 → m1 x = m x := fun x hx => by rw [q1.2]
  have hS1 := hS.keep (m1 := m1) (fun x hx => by rw [q1.2])
  have hM1 := hM.hi k1
  refine z_aload_n dL_law_1327 rfl ?_
  refine z_sload_n dL_law_1328 rfl ?_
  refine z_iload_n dL_law_1329 rfl ?_
  refine z_iconst dL_law_1330 (by decide) ?_
  refine z_iadd dL_law_1331 (by omega) ?_
  refine z_sald dL_law_1332 rfl (by omega) (by omega) ?_
  refine z_V1i dL_law_1333 ok_X12_sign lk_L_136 (by first | rfl | assumption) rfl rfl (Nat.le_of_ble_eq_true rfl) (by decide) (cm_X12_sign hM1.2.2.2.2.2.2.1 hM1.2.2.2.2.2.2.2) (fun z2 m2 q2 => ?_)
  have fin : z1 = z2 ∧ lwI m2 := ⟨q1.1.uniq q2.1, nf, fd, np, pr, nw, wd, fr, bk, mo, a, b, cS.lo hS1 (fun x hx => by rw [q2.2]), (by rw [q2.2]; exact hM1), hR⟩
  refine z_icmp_eq 1411 dL_law_1336 (by decide) (fun h1336 => ?_) (fun h1336 => ?_)
  · exact kk _ fin.2
  · exact absurd fin.1 h1336
theorem lc_29 {X : Nat × (Int → Int)} {i : Nat} {m : Mem} {Q : zPost} (hi : i + 7 ≤ X.1) (hL : X.1 ≤ 3584) (hI : lwI m) (kk : ∀ m', lwI m' → ZZ X (0, 0) 12 mL_law G0 1411 [vc 2, vr 0, vr 88, vi (i : Int)] [] m' Q) : ZZ X (0, 0) 12 mL_law G0 1341 [vc 2, vr 0, vr 88, vi (i : Int)] [] m Q := by
  have hI0 := hI
  obtain ⟨nf, fd, np, pr, nw, wd, fr, bk, mo, a, b, hS, hM, hR⟩ := hI
  have hS0 := hS
  obtain ⟨hC, hwc, hw0⟩ := hS0
  have hR0 := hR
  obtain ⟨rF, rP, rFr, rB, rW, o1, o2⟩ := hR0
  refine z_aload_n dL_law_1341 rfl ?_
  refine z_sload_n dL_law_1342 rfl ?_
  refine z_iload_n dL_law_1343 rfl ?_
  refine z_iconst dL_law_1344 (by decide) ?_
  refine z_iadd dL_law_1345 (by omega) ?_
  refine z_sald dL_law_1346 rfl (by omega) (by omega) ?_
  refine z_sload_n dL_law_1347 rfl ?_
  refine z_iload_n dL_law_1348 rfl ?_
  refine z_iconst dL_law_1349 (by decide) ?_
  refine z_iadd dL_law_1350 (by omega) ?_
  refine z_sald dL_law_1351 rfl (by omega) (by omega) ?_
  refine z_V2i dL_law_1352 ok_X11_limb lk_L_137 (by first | rfl | assumption) rfl rfl (Nat.le_of_ble_eq_true rfl) (by decide) (cm_X11_limb hC.2.2.2.2.2.2) (fun z1 m1 q1 => ?_)
  have k1 : ∀ x, (88 ≤ x ∧ x < 105) ∨ x = 32 → m1 x = m x := fun x hx => by rw [q1.2]
  have hS1 := hS.keep (m1 := m1) (fun x hx => by rw [q1.2])
  have hM1 := hM.hi k1
  refine z_aload_n dL_law_1355 rfl ?_
  refine z_sload_n dL_law_1356 rfl ?_
  refine z_iload_n dL_law_1357 rfl ?_
  refine z_iconst dL_law_1358 (by decide) ?_
  refine z_iadd dL_law_1359 (by omega) ?_
  refine z_sald dL_law_1360 rfl (by omega) (by omega) ?_
  refine z_sload_n dL_law_1361 rfl ?_
  refine z_iload_n dL_law_1362 rfl ?_
  refine z_iconst dL_law_1363 (by decide) ?_
  refine z_iadd dL_law_1364 (by omega) ?_
  refine z_sald dL_law_1365 rfl (by omega) (by omega) ?_
  refine z_V2i dL_law_1366 ok_X12_limb lk_L_140 (by first | rfl | assumption) rfl rfl (Nat.le_of_ble_eq_true rfl) (by decide) (cm_X12_limb hM1.2.2.2.2.2.2.1 hM1.2.2.2.2.2.2.2) (fun z2 m2 q2 => ?_)
  have fin : z1 = z2 ∧ lwI m2 := ⟨q1.1.uniq q2.1, nf, fd, np, pr, nw, wd, fr, bk, mo, a, b, cS.lo hS1 (fun x hx => by rw [q2.2]), (by rw [q2.2]; exact hM1), hR⟩
  refine z_icmp_eq 1411 dL_law_1369 (by decide) (fun h1369 => ?_) (fun h1369 => ?_)
  · exact kk _ fin.2
  · exact absurd fin.1 h1369
theorem lc_30 {X : Nat × (Int → Int)} {i : Nat} {m : Mem} {Q : zPost} (hi : i + 7 ≤ X.1) (hL : X.1 ≤ 3584) (hI : lwI m) (kk : ∀ m', lwI m' → ZZ X (0, 0) 12 mL_law G0 1411 [vc 2, vr 0, vr 88, vi (i : Int)] [] m' Q) : ZZ X (0, 0) 12 mL_law G0 1374 [vc 2, vr 0, vr 88, vi (i : Int)] [] m Q := by
  have hI0 := hI
  obtain ⟨nf, fd, np, pr, nw, wd, fr, bk, mo, a, b, hS, hM, hR⟩ := hI
  have hS0 := hS
  obtain ⟨hC, hwc, hw0⟩ := hS0
  have hR0 := hR
  obtain ⟨rF, rP, rFr, rB, rW, o1, o2⟩ := hR0
  refine z_aload_n dL_law_1374 rfl ?_
  refine z_sload_n dL_law_1375 rfl ?_
  refine z_iload_n dL_law_1376 rfl ?_
  refine z_iconst dL_law_1377 (by decide) ?_
  refine z_iadd dL_law_1378 (by omega) ?_
  refine z_sald dL_law_1379 rfl (by omega) (by omega) ?_
  refine z_V1i dL_law_1380 ok_X11_count lk_L_141 (by first | rfl | assumption) rfl rfl (Nat.le_of_ble_eq_true rfl) (by decide) (cm_X11_count hC.1 rF hC.2.2.2.2.1 hC.2.1 hC.2.2.1.2.1) (fun z1 m1 q1 => ?_)
  have k1 : ∀ x, (88 ≤ x ∧ x < 105) ∨ x = 32 → m1 x = m x := fun x hx => by rw [q1.2]
  have hS1 := hS.keep (m1 := m1) (fun x hx => by rw [q1.2])
  have hM1 := hM.hi k1
  refine z_aload_n dL_law_1383 rfl ?_
  refine z_sload_n dL_law_1384 rfl ?_
  refine z_iload_n dL_law_1385 rfl ?_
  refine z_iconst dL_law_1386 (by decide) ?_
  refine z_iadd dL_law_1387 (by omega) ?_
  refine z_sald dL_law_1388 rfl (by omega) (by omega) ?_
  refine z_V1i dL_law_1389 ok_X12_count lk_L_144 (by first | rfl | assumption) rfl rfl (Nat.le_of_ble_eq_true rfl) (by decide) (cm_X12_count hM1.1 rF hM1.2.2.2.2.1 hM1.2.1 hM1.2.2.1.2.1) (fun z2 m2 q2 => ?_)
  have fin : z1 = z2 ∧ lwI m2 := ⟨q1.1.trans q2.1.symm, nf, fd, np, pr, nw, wd, fr, bk, mo, a, b, cS.lo hS1 (fun x hx => by rw [q2.2]), (by rw [q2.2]; exact hM1), hR⟩
  refine z_icmp_eq 1411 dL_law_1392 (by decide) (fun h1392 => ?_) (fun h1392 => ?_)
  · exact kk _ fin.2
  · exact absurd fin.1 h1392
theorem lc_31 {X : Nat × (Int → Int)} {i : Nat} {m : Mem} {Q : zPost} (hi : i + 7 ≤ X.1) (hL : X.1 ≤ 3584) (hI : lwI m) (kk : ∀ m', lwI m' → ZZ X (0, 0) 12 mL_law G0 1411 [vc 2, vr 0, vr 88, vi (i : Int)] [] m' Q) : ZZ X (0, 0) 12 mL_law G0 1397 [vc 2, vr 0, vr 88, vi (i : Int)] [] m Q := by
  have hI0 := hI
  obtain ⟨nf, fd, np, pr, nw, wd, fr, bk, mo, a, b, hS, hM, hR⟩ := hI
  have hS0 := hS
  obtain ⟨hC, hwc, hw0⟩ := hS0
  have hR0 := hR
  obtain ⟨rF, rP, rFr, rB, rW, o1, o2⟩ := hR0
  refine z_aload_n dL_law_1397 rfl ?_
  refine z_V0l dL_law_1398 ok_X11_digest lk_L_145 (by first | rfl | assumption) rfl rfl (Nat.le_of_ble_eq_true rfl) (by decide) (cm_X11_digest hC rF) (fun z1 m1 q1 => ?_)
  have k1 : ∀ x, (88 ≤ x ∧ x < 105) ∨ x = 32 → m1 x = m x := fun x hx => q1.2 x (by omega) (by omega) (by omega) (by omega)
  have hS1 := hS.keep (m1 := m1) (fun x hx => q1.2 x (by omega) (by omega) (by omega) (by omega))
  have hM1 := hM.hi k1
  refine z_aload_n dL_law_1401 rfl ?_
  refine z_V0l dL_law_1402 ok_X12_digest lk_L_149 (by first | rfl | assumption) rfl rfl (Nat.le_of_ble_eq_true rfl) (by decide) (cm_X12_digest hM1 rF) (fun z2 m2 q2 => ?_)
  have fin : z1 = z2 ∧ lwI m2 := ⟨q1.1.uniq q2.1, nf, fd, np, pr, nw, wd, fr, bk, mo, a, b, cS.lo hS1 (fun x hx => q2.2.1 x (by omega) (by omega) (by omega)), hM1.all (fun x hx => q2.2.1 x (by omega) (by omega) (by omega)) (fun j hj => q2.2.2 j (by omega) (by omega)), hR⟩
  refine z_lcmp dL_law_1405 ?_
  refine z_if_eq 1411 dL_law_1406 (by decide) (fun h1406 => ?_) (fun h1406 => ?_)
  · rw [lc_eq] at h1406
    exact kk _ fin.2
  · rw [lc_eq] at h1406
    exact absurd fin.1 h1406
