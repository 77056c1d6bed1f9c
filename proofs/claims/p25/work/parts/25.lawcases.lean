section LWC
variable {p : Program} {l : Launch} {e : Env} {s : State} {m : MethodId} {below : List Frame} {meth : Method} {c : Code} {D : va_G} {tI tII : ClassId} {b L : Nat} {xs : Nat → Int32} {B cells slots : Nat} {H : Heap} {locs : List Loc} {Q : State → Prop} {ls : Array Slot} {x3 : Int32} {σ : Mem}
set_option maxHeartbeats 4000000 in
set_option maxRecDepth 100000 in
theorem lw_case_27 {I : Mem → Prop} {F : Nat} (hok : wl_ok_27 I F) (hI : I σ) (C : wl_C p s m meth c b L xs D tI tII B) (hcs : cells ≤ room_1.cells ∧ slots ≤ room_1.slots) (hin : ∀ j : Int32, 0 ≤ j ∧ j ≤ 5 → vp_in (x3 + j) L) (hM : wt_St D tI tII B σ s H locs) (hl : lv_has ls 4 [(3, .int x3), (0, .ref b), (1, .ref (B + 0)), (2, .ref (B + 101))]) (kk : ∀ (σ2 : Mem) (H : Heap) (locs : List Loc) (ls : Array Slot), I σ2 → wt_St D tI tII B σ2 s H locs → lv_has ls 4 [(3, .int x3), (0, .ref b), (1, .ref (B + 0)), (2, .ref (B + 101))] → W p l e room_1 s m #[Value.ref b] below meth c H locs cells slots Q (F0 m 1946 ls [])) : W p l e room_1 s m #[Value.ref b] below meth c H locs cells slots Q (F0 m 1115 ls []) := by
  obtain ⟨hx, hb, hts, hown, hml, hX, hbl, hbA, hK⟩ := C
  obtain ⟨r1, σ1, r2, σ2, h1, h2, hI⟩ := hok σ (xs (x3 + 1).toNatClampNeg) (xs (x3 + 2).toNatClampNeg) (xs (x3 + 3).toNatClampNeg) hI
  refine lv_aload_n hx hb dL_law_1115 rfl (lv_at hl 2 rfl) ?_
  refine lv_aload_n hx hb dL_law_1116 rfl (lv_at hl 1 rfl) ?_
  refine lv_iload_n hx hb dL_law_1117 rfl (lv_at hl 0 rfl) ?_
  refine lv_iconst (v := 1) hx hb dL_law_1118 (by decide) ?_
  refine lv_iadd hx hb dL_law_1119 ?_
  refine va_sld hx hb hX hbl hbA hM.2 (hin 1 (by decide)) dL_law_1120 ?_
  refine lv_aload_n hx hb dL_law_1121 rfl (lv_at hl 1 rfl) ?_
  refine lv_iload_n hx hb dL_law_1122 rfl (lv_at hl 0 rfl) ?_
  refine lv_iconst (v := 2) hx hb dL_law_1123 (by decide) ?_
  refine lv_iadd hx hb dL_law_1124 ?_
  refine va_sld hx hb hX hbl hbA hM.2 (hin 2 (by decide)) dL_law_1125 ?_
  refine lv_aload_n hx hb dL_law_1126 rfl (lv_at hl 1 rfl) ?_
  refine lv_iload_n hx hb dL_law_1127 rfl (lv_at hl 0 rfl) ?_
  refine lv_iconst (v := 3) hx hb dL_law_1128 (by decide) ?_
  refine lv_iadd hx hb dL_law_1129 ?_
  refine va_sld hx hb hX hbl hbA hM.2 (hin 3 (by decide)) dL_law_1130 ?_
  refine wl_callVl (As := [.int (xs (x3 + 1).toNatClampNeg), .int (xs (x3 + 2).toNatClampNeg), .int (xs (x3 + 3).toNatClampNeg)]) (rest := []) hx hb hml hts hown hK hM wt_rc_X3 cl_126 hl_X3_share rfl ⟨qz_b rfl, qz_b rfl⟩ ⟨rfl, rfl⟩ hl.1 rfl (qz_b rfl) dL_law_1131 hcs (c_X3_share h1) (fun H locs hM => ?_)
  refine lv_pop2_2 hx hb dL_law_1134 rfl ?_
  refine lv_aload_n hx hb dL_law_1135 rfl (lv_at hl 3 rfl) ?_
  refine lv_aload_n hx hb dL_law_1136 rfl (lv_at hl 1 rfl) ?_
  refine lv_iload_n hx hb dL_law_1137 rfl (lv_at hl 0 rfl) ?_
  refine lv_iconst (v := 1) hx hb dL_law_1138 (by decide) ?_
  refine lv_iadd hx hb dL_law_1139 ?_
  refine va_sld hx hb hX hbl hbA hM.2 (hin 1 (by decide)) dL_law_1140 ?_
  refine lv_aload_n hx hb dL_law_1141 rfl (lv_at hl 1 rfl) ?_
  refine lv_iload_n hx hb dL_law_1142 rfl (lv_at hl 0 rfl) ?_
  refine lv_iconst (v := 2) hx hb dL_law_1143 (by decide) ?_
  refine lv_iadd hx hb dL_law_1144 ?_
  refine va_sld hx hb hX hbl hbA hM.2 (hin 2 (by decide)) dL_law_1145 ?_
  refine lv_aload_n hx hb dL_law_1146 rfl (lv_at hl 1 rfl) ?_
  refine lv_iload_n hx hb dL_law_1147 rfl (lv_at hl 0 rfl) ?_
  refine lv_iconst (v := 3) hx hb dL_law_1148 (by decide) ?_
  refine lv_iadd hx hb dL_law_1149 ?_
  refine va_sld hx hb hX hbl hbA hM.2 (hin 3 (by decide)) dL_law_1150 ?_
  refine wl_callVl (As := [.int (xs (x3 + 1).toNatClampNeg), .int (xs (x3 + 2).toNatClampNeg), .int (xs (x3 + 3).toNatClampNeg)]) (rest := []) hx hb hml hts hown hK hM wt_rc_X4 cl_130 hl_X4_share rfl ⟨qz_b rfl, qz_b rfl⟩ ⟨rfl, rfl⟩ hl.1 rfl (qz_b rfl) dL_law_1151 hcs (c_X4_share h2) (fun H locs hM => ?_)
  refine lv_pop2_2 hx hb dL_law_1154 rfl ?_
  refine lv_goto (tgt := 1946) hx hb dL_law_1155 (by decide) ?_
  exact kk _ _ _ _ hI hM hl
set_option maxHeartbeats 4000000 in
set_option maxRecDepth 100000 in
theorem lw_case_28 {I : Mem → Prop} {F : Nat} (hok : wl_ok_28 I F) (hI : I σ) (C : wl_C p s m meth c b L xs D tI tII B) (hcs : cells ≤ room_1.cells ∧ slots ≤ room_1.slots) (hin : ∀ j : Int32, 0 ≤ j ∧ j ≤ 5 → vp_in (x3 + j) L) (hM : wt_St D tI tII B σ s H locs) (hl : lv_has ls 4 [(3, .int x3), (0, .ref b), (1, .ref (B + 0)), (2, .ref (B + 101))]) (kk : ∀ (σ2 : Mem) (H : Heap) (locs : List Loc) (ls : Array Slot), I σ2 → wt_St D tI tII B σ2 s H locs → lv_has ls 4 [(3, .int x3), (0, .ref b), (1, .ref (B + 0)), (2, .ref (B + 101))] → W p l e room_1 s m #[Value.ref b] below meth c H locs cells slots Q (F0 m 1946 ls [])) : W p l e room_1 s m #[Value.ref b] below meth c H locs cells slots Q (F0 m 1158 ls []) := by
  obtain ⟨hx, hb, hts, hown, hml, hX, hbl, hbA, hK⟩ := C
  obtain ⟨r1, σ1, r2, σ2, h1, h2, hI⟩ := hok σ (xs (x3 + 1).toNatClampNeg) (xs (x3 + 2).toNatClampNeg) (xs (x3 + 3).toNatClampNeg) (xs (x3 + 4).toNatClampNeg) hI
  refine lv_aload_n hx hb dL_law_1158 rfl (lv_at hl 2 rfl) ?_
  refine lv_aload_n hx hb dL_law_1159 rfl (lv_at hl 1 rfl) ?_
  refine lv_iload_n hx hb dL_law_1160 rfl (lv_at hl 0 rfl) ?_
  refine lv_iconst (v := 1) hx hb dL_law_1161 (by decide) ?_
  refine lv_iadd hx hb dL_law_1162 ?_
  refine va_sld hx hb hX hbl hbA hM.2 (hin 1 (by decide)) dL_law_1163 ?_
  refine lv_aload_n hx hb dL_law_1164 rfl (lv_at hl 1 rfl) ?_
  refine lv_iload_n hx hb dL_law_1165 rfl (lv_at hl 0 rfl) ?_
  refine lv_iconst (v := 2) hx hb dL_law_1166 (by decide) ?_
  refine lv_iadd hx hb dL_law_1167 ?_
  refine va_sld hx hb hX hbl hbA hM.2 (hin 2 (by decide)) dL_law_1168 ?_
  refine lv_aload_n hx hb dL_law_1169 rfl (lv_at hl 1 rfl) ?_
  refine lv_iload_n hx hb dL_law_1170 rfl (lv_at hl 0 rfl) ?_
  refine lv_iconst (v := 3) hx hb dL_law_1171 (by decide) ?_
  refine lv_iadd hx hb dL_law_1172 ?_
  refine va_sld hx hb hX hbl hbA hM.2 (hin 3 (by decide)) dL_law_1173 ?_
  refine lv_aload_n hx hb dL_law_1174 rfl (lv_at hl 1 rfl) ?_
  refine lv_iload_n hx hb dL_law_1175 rfl (lv_at hl 0 rfl) ?_
  refine lv_iconst (v := 4) hx hb dL_law_1176 (by decide) ?_
  refine lv_iadd hx hb dL_law_1177 ?_
  refine va_sld hx hb hX hbl hbA hM.2 (hin 4 (by decide)) dL_law_1178 ?_
  refine wl_callVi (As := [.int (xs (x3 + 1).toNatClampNeg), .int (xs (x3 + 2).toNatClampNeg), .int (xs (x3 + 3).toNatClampNeg), .int (xs (x3 + 4).toNatClampNeg)]) (rest := []) hx hb hml hts hown hK hM wt_rc_X3 cl_131 hl_X3_two rfl ⟨qz_b rfl, qz_b rfl⟩ ⟨rfl, rfl⟩ hl.1 rfl (qz_b rfl) dL_law_1179 hcs (c_X3_two h1) (fun H locs hM => ?_)
  refine lv_pop hx hb dL_law_1182 rfl ?_
  refine lv_aload_n hx hb dL_law_1183 rfl (lv_at hl 3 rfl) ?_
  refine lv_aload_n hx hb dL_law_1184 rfl (lv_at hl 1 rfl) ?_
  refine lv_iload_n hx hb dL_law_1185 rfl (lv_at hl 0 rfl) ?_
  refine lv_iconst (v := 1) hx hb dL_law_1186 (by decide) ?_
  refine lv_iadd hx hb dL_law_1187 ?_
  refine va_sld hx hb hX hbl hbA hM.2 (hin 1 (by decide)) dL_law_1188 ?_
  refine lv_aload_n hx hb dL_law_1189 rfl (lv_at hl 1 rfl) ?_
  refine lv_iload_n hx hb dL_law_1190 rfl (lv_at hl 0 rfl) ?_
  refine lv_iconst (v := 2) hx hb dL_law_1191 (by decide) ?_
  refine lv_iadd hx hb dL_law_1192 ?_
  refine va_sld hx hb hX hbl hbA hM.2 (hin 2 (by decide)) dL_law_1193 ?_
  refine lv_aload_n hx hb dL_law_1194 rfl (lv_at hl 1 rfl) ?_
  refine lv_iload_n hx hb dL_law_1195 rfl (lv_at hl 0 rfl) ?_
  refine lv_iconst (v := 3) hx hb dL_law_1196 (by decide) ?_
  refine lv_iadd hx hb dL_law_1197 ?_
  refine va_sld hx hb hX hbl hbA hM.2 (hin 3 (by decide)) dL_law_1198 ?_
  refine lv_aload_n hx hb dL_law_1199 rfl (lv_at hl 1 rfl) ?_
  refine lv_iload_n hx hb dL_law_1200 rfl (lv_at hl 0 rfl) ?_
  refine lv_iconst (v := 4) hx hb dL_law_1201 (by decide) ?_
  refine lv_iadd hx hb dL_law_1202 ?_
  refine va_sld hx hb hX hbl hbA hM.2 (hin 4 (by decide)) dL_law_1203 ?_
  refine wl_callVi (As := [.int (xs (x3 + 1).toNatClampNeg), .int (xs (x3 + 2).toNatClampNeg), .int (xs (x3 + 3).toNatClampNeg), .int (xs (x3 + 4).toNatClampNeg)]) (rest := []) hx hb hml hts hown hK hM wt_rc_X4 cl_134 hl_X4_two rfl ⟨qz_b rfl, qz_b rfl⟩ ⟨rfl, rfl⟩ hl.1 rfl (qz_b rfl) dL_law_1204 hcs (c_X4_two h2) (fun H locs hM => ?_)
  refine lv_pop hx hb dL_law_1207 rfl ?_
  refine lv_goto (tgt := 1946) hx hb dL_law_1208 (by decide) ?_
  exact kk _ _ _ _ hI hM hl
set_option maxHeartbeats 4000000 in
set_option maxRecDepth 100000 in
theorem lw_case_29 {I : Mem → Prop} {F : Nat} (hok : wl_ok_29 I F) (hI : I σ) (C : wl_C p s m meth c b L xs D tI tII B) (hcs : cells ≤ room_1.cells ∧ slots ≤ room_1.slots) (hin : ∀ j : Int32, 0 ≤ j ∧ j ≤ 5 → vp_in (x3 + j) L) (hM : wt_St D tI tII B σ s H locs) (hl : lv_has ls 4 [(3, .int x3), (0, .ref b), (1, .ref (B + 0)), (2, .ref (B + 101))]) (kk : ∀ (σ2 : Mem) (H : Heap) (locs : List Loc) (ls : Array Slot), I σ2 → wt_St D tI tII B σ2 s H locs → lv_has ls 4 [(3, .int x3), (0, .ref b), (1, .ref (B + 0)), (2, .ref (B + 101))] → W p l e room_1 s m #[Value.ref b] below meth c H locs cells slots Q (F0 m 1946 ls [])) : W p l e room_1 s m #[Value.ref b] below meth c H locs cells slots Q (F0 m 1211 ls []) := by
  obtain ⟨hx, hb, hts, hown, hml, hX, hbl, hbA, hK⟩ := C
  obtain ⟨r1, σ1, r2, σ2, h1, h2, hI⟩ := hok σ hI
  refine lv_aload_n hx hb dL_law_1211 rfl (lv_at hl 2 rfl) ?_
  refine wl_callVi (As := []) (rest := []) hx hb hml hts hown hK hM wt_rc_X3 cl_135 hl_X3_whichLaw rfl ⟨qz_b rfl, qz_b rfl⟩ ⟨rfl, rfl⟩ hl.1 rfl (qz_b rfl) dL_law_1212 hcs (c_X3_whichLaw h1) (fun H locs hM => ?_)
  refine lv_pop hx hb dL_law_1215 rfl ?_
  refine lv_aload_n hx hb dL_law_1216 rfl (lv_at hl 3 rfl) ?_
  refine wl_callVi (As := []) (rest := []) hx hb hml hts hown hK hM wt_rc_X4 cl_138 hl_X4_whichLaw rfl ⟨qz_b rfl, qz_b rfl⟩ ⟨rfl, rfl⟩ hl.1 rfl (qz_b rfl) dL_law_1217 hcs (c_X4_whichLaw h2) (fun H locs hM => ?_)
  refine lv_pop hx hb dL_law_1220 rfl ?_
  refine lv_goto (tgt := 1946) hx hb dL_law_1221 (by decide) ?_
  exact kk _ _ _ _ hI hM hl
set_option maxHeartbeats 4000000 in
set_option maxRecDepth 100000 in
theorem lw_case_30 {I : Mem → Prop} {F : Nat} (hok : wl_ok_30 I F) (hI : I σ) (C : wl_C p s m meth c b L xs D tI tII B) (hcs : cells ≤ room_1.cells ∧ slots ≤ room_1.slots) (hin : ∀ j : Int32, 0 ≤ j ∧ j ≤ 5 → vp_in (x3 + j) L) (hM : wt_St D tI tII B σ s H locs) (hl : lv_has ls 4 [(3, .int x3), (0, .ref b), (1, .ref (B + 0)), (2, .ref (B + 101))]) (kk : ∀ (σ2 : Mem) (H : Heap) (locs : List Loc) (ls : Array Slot), I σ2 → wt_St D tI tII B σ2 s H locs → lv_has ls 4 [(3, .int x3), (0, .ref b), (1, .ref (B + 0)), (2, .ref (B + 101))] → W p l e room_1 s m #[Value.ref b] below meth c H locs cells slots Q (F0 m 1946 ls [])) : W p l e room_1 s m #[Value.ref b] below meth c H locs cells slots Q (F0 m 1224 ls []) := by
  obtain ⟨hx, hb, hts, hown, hml, hX, hbl, hbA, hK⟩ := C
  obtain ⟨r1, σ1, r2, σ2, h1, h2, hI⟩ := hok σ (xs (x3 + 1).toNatClampNeg) (xs (x3 + 2).toNatClampNeg) (xs (x3 + 3).toNatClampNeg) hI
  refine lv_aload_n hx hb dL_law_1224 rfl (lv_at hl 2 rfl) ?_
  refine lv_aload_n hx hb dL_law_1225 rfl (lv_at hl 1 rfl) ?_
  refine lv_iload_n hx hb dL_law_1226 rfl (lv_at hl 0 rfl) ?_
  refine lv_iconst (v := 1) hx hb dL_law_1227 (by decide) ?_
  refine lv_iadd hx hb dL_law_1228 ?_
  refine va_sld hx hb hX hbl hbA hM.2 (hin 1 (by decide)) dL_law_1229 ?_
  refine lv_aload_n hx hb dL_law_1230 rfl (lv_at hl 1 rfl) ?_
  refine lv_iload_n hx hb dL_law_1231 rfl (lv_at hl 0 rfl) ?_
  refine lv_iconst (v := 2) hx hb dL_law_1232 (by decide) ?_
  refine lv_iadd hx hb dL_law_1233 ?_
  refine va_sld hx hb hX hbl hbA hM.2 (hin 2 (by decide)) dL_law_1234 ?_
  refine lv_aload_n hx hb dL_law_1235 rfl (lv_at hl 1 rfl) ?_
  refine lv_iload_n hx hb dL_law_1236 rfl (lv_at hl 0 rfl) ?_
  refine lv_iconst (v := 3) hx hb dL_law_1237 (by decide) ?_
  refine lv_iadd hx hb dL_law_1238 ?_
  refine va_sld hx hb hX hbl hbA hM.2 (hin 3 (by decide)) dL_law_1239 ?_
  refine wl_callVi (As := [.int (xs (x3 + 1).toNatClampNeg), .int (xs (x3 + 2).toNatClampNeg), .int (xs (x3 + 3).toNatClampNeg)]) (rest := []) hx hb hml hts hown hK hM wt_rc_X3 cl_139 hl_X3_whichKind rfl ⟨qz_b rfl, qz_b rfl⟩ ⟨rfl, rfl⟩ hl.1 rfl (qz_b rfl) dL_law_1240 hcs (c_X3_whichKind h1) (fun H locs hM => ?_)
  refine lv_pop hx hb dL_law_1243 rfl ?_
  refine lv_aload_n hx hb dL_law_1244 rfl (lv_at hl 3 rfl) ?_
  refine lv_aload_n hx hb dL_law_1245 rfl (lv_at hl 1 rfl) ?_
  refine lv_iload_n hx hb dL_law_1246 rfl (lv_at hl 0 rfl) ?_
  refine lv_iconst (v := 1) hx hb dL_law_1247 (by decide) ?_
  refine lv_iadd hx hb dL_law_1248 ?_
  refine va_sld hx hb hX hbl hbA hM.2 (hin 1 (by decide)) dL_law_1249 ?_
  refine lv_aload_n hx hb dL_law_1250 rfl (lv_at hl 1 rfl) ?_
  refine lv_iload_n hx hb dL_law_1251 rfl (lv_at hl 0 rfl) ?_
  refine lv_iconst (v := 2) hx hb dL_law_1252 (by decide) ?_
  refine lv_iadd hx hb dL_law_1253 ?_
  refine va_sld hx hb hX hbl hbA hM.2 (hin 2 (by decide)) dL_law_1254 ?_
  refine lv_aload_n hx hb dL_law_1255 rfl (lv_at hl 1 rfl) ?_
  refine lv_iload_n hx hb dL_law_1256 rfl (lv_at hl 0 rfl) ?_
  refine lv_iconst (v := 3) hx hb dL_law_1257 (by decide) ?_
  refine lv_iadd hx hb dL_law_1258 ?_
  refine va_sld hx hb hX hbl hbA hM.2 (hin 3 (by decide)) dL_law_1259 ?_
  refine wl_callVi (As := [.int (xs (x3 + 1).toNatClampNeg), .int (xs (x3 + 2).toNatClampNeg), .int (xs (x3 + 3).toNatClampNeg)]) (rest := []) hx hb hml hts hown hK hM wt_rc_X4 cl_142 hl_X4_whichKind rfl ⟨qz_b rfl, qz_b rfl⟩ ⟨rfl, rfl⟩ hl.1 rfl (qz_b rfl) dL_law_1260 hcs (c_X4_whichKind h2) (fun H locs hM => ?_)
  refine lv_pop hx hb dL_law_1263 rfl ?_
  refine lv_goto (tgt := 1946) hx hb dL_law_1264 (by decide) ?_
  exact kk _ _ _ _ hI hM hl
set_option maxHeartbeats 4000000 in
set_option maxRecDepth 100000 in
theorem lw_case_31 {I : Mem → Prop} {F : Nat} (hok : wl_ok_31 I F) (hI : I σ) (C : wl_C p s m meth c b L xs D tI tII B) (hcs : cells ≤ room_1.cells ∧ slots ≤ room_1.slots) (hin : ∀ j : Int32, 0 ≤ j ∧ j ≤ 5 → vp_in (x3 + j) L) (hM : wt_St D tI tII B σ s H locs) (hl : lv_has ls 4 [(3, .int x3), (0, .ref b), (1, .ref (B + 0)), (2, .ref (B + 101))]) (kk : ∀ (σ2 : Mem) (H : Heap) (locs : List Loc) (ls : Array Slot), I σ2 → wt_St D tI tII B σ2 s H locs → lv_has ls 4 [(3, .int x3), (0, .ref b), (1, .ref (B + 0)), (2, .ref (B + 101))] → W p l e room_1 s m #[Value.ref b] below meth c H locs cells slots Q (F0 m 1946 ls [])) : W p l e room_1 s m #[Value.ref b] below meth c H locs cells slots Q (F0 m 1267 ls []) := by
  obtain ⟨hx, hb, hts, hown, hml, hX, hbl, hbA, hK⟩ := C
  obtain ⟨r1, σ1, r2, σ2, h1, h2, hI⟩ := hok σ (xs (x3 + 1).toNatClampNeg) (xs (x3 + 2).toNatClampNeg) (xs (x3 + 3).toNatClampNeg) (xs (x3 + 4).toNatClampNeg) (xs (x3 + 5).toNatClampNeg) hI
  refine lv_aload_n hx hb dL_law_1267 rfl (lv_at hl 2 rfl) ?_
  refine lv_aload_n hx hb dL_law_1268 rfl (lv_at hl 1 rfl) ?_
  refine lv_iload_n hx hb dL_law_1269 rfl (lv_at hl 0 rfl) ?_
  refine lv_iconst (v := 1) hx hb dL_law_1270 (by decide) ?_
  refine lv_iadd hx hb dL_law_1271 ?_
  refine va_sld hx hb hX hbl hbA hM.2 (hin 1 (by decide)) dL_law_1272 ?_
  refine lv_aload_n hx hb dL_law_1273 rfl (lv_at hl 1 rfl) ?_
  refine lv_iload_n hx hb dL_law_1274 rfl (lv_at hl 0 rfl) ?_
  refine lv_iconst (v := 2) hx hb dL_law_1275 (by decide) ?_
  refine lv_iadd hx hb dL_law_1276 ?_
  refine va_sld hx hb hX hbl hbA hM.2 (hin 2 (by decide)) dL_law_1277 ?_
  refine lv_aload_n hx hb dL_law_1278 rfl (lv_at hl 1 rfl) ?_
  refine lv_iload_n hx hb dL_law_1279 rfl (lv_at hl 0 rfl) ?_
  refine lv_iconst (v := 3) hx hb dL_law_1280 (by decide) ?_
  refine lv_iadd hx hb dL_law_1281 ?_
  refine va_sld hx hb hX hbl hbA hM.2 (hin 3 (by decide)) dL_law_1282 ?_
  refine lv_aload_n hx hb dL_law_1283 rfl (lv_at hl 1 rfl) ?_
  refine lv_iload_n hx hb dL_law_1284 rfl (lv_at hl 0 rfl) ?_
  refine lv_iconst (v := 4) hx hb dL_law_1285 (by decide) ?_
  refine lv_iadd hx hb dL_law_1286 ?_
  refine va_sld hx hb hX hbl hbA hM.2 (hin 4 (by decide)) dL_law_1287 ?_
  refine lv_aload_n hx hb dL_law_1288 rfl (lv_at hl 1 rfl) ?_
  refine lv_iload_n hx hb dL_law_1289 rfl (lv_at hl 0 rfl) ?_
  refine lv_iconst (v := 5) hx hb dL_law_1290 (by decide) ?_
  refine lv_iadd hx hb dL_law_1291 ?_
  refine va_sld hx hb hX hbl hbA hM.2 (hin 5 (by decide)) dL_law_1292 ?_
  refine wl_callVl (As := [.int (xs (x3 + 1).toNatClampNeg), .int (xs (x3 + 2).toNatClampNeg), .int (xs (x3 + 3).toNatClampNeg), .int (xs (x3 + 4).toNatClampNeg), .int (xs (x3 + 5).toNatClampNeg)]) (rest := []) hx hb hml hts hown hK hM wt_rc_X3 cl_143 hl_X3_ill rfl ⟨qz_b rfl, qz_b rfl⟩ ⟨rfl, rfl⟩ hl.1 rfl (qz_b rfl) dL_law_1293 hcs (c_X3_ill h1) (fun H locs hM => ?_)
  refine lv_pop2_2 hx hb dL_law_1296 rfl ?_
  refine lv_aload_n hx hb dL_law_1297 rfl (lv_at hl 3 rfl) ?_
  refine lv_aload_n hx hb dL_law_1298 rfl (lv_at hl 1 rfl) ?_
  refine lv_iload_n hx hb dL_law_1299 rfl (lv_at hl 0 rfl) ?_
  refine lv_iconst (v := 1) hx hb dL_law_1300 (by decide) ?_
  refine lv_iadd hx hb dL_law_1301 ?_
  refine va_sld hx hb hX hbl hbA hM.2 (hin 1 (by decide)) dL_law_1302 ?_
  refine lv_aload_n hx hb dL_law_1303 rfl (lv_at hl 1 rfl) ?_
  refine lv_iload_n hx hb dL_law_1304 rfl (lv_at hl 0 rfl) ?_
  refine lv_iconst (v := 2) hx hb dL_law_1305 (by decide) ?_
  refine lv_iadd hx hb dL_law_1306 ?_
  refine va_sld hx hb hX hbl hbA hM.2 (hin 2 (by decide)) dL_law_1307 ?_
  refine lv_aload_n hx hb dL_law_1308 rfl (lv_at hl 1 rfl) ?_
  refine lv_iload_n hx hb dL_law_1309 rfl (lv_at hl 0 rfl) ?_
  refine lv_iconst (v := 3) hx hb dL_law_1310 (by decide) ?_
  refine lv_iadd hx hb dL_law_1311 ?_
  refine va_sld hx hb hX hbl hbA hM.2 (hin 3 (by decide)) dL_law_1312 ?_
  refine lv_aload_n hx hb dL_law_1313 rfl (lv_at hl 1 rfl) ?_
  refine lv_iload_n hx hb dL_law_1314 rfl (lv_at hl 0 rfl) ?_
  refine lv_iconst (v := 4) hx hb dL_law_1315 (by decide) ?_
  refine lv_iadd hx hb dL_law_1316 ?_
  refine va_sld hx hb hX hbl hbA hM.2 (hin 4 (by decide)) dL_law_1317 ?_
  refine lv_aload_n hx hb dL_law_1318 rfl (lv_at hl 1 rfl) ?_
  refine lv_iload_n hx hb dL_law_1319 rfl (lv_at hl 0 rfl) ?_
  refine lv_iconst (v := 5) hx hb dL_law_1320 (by decide) ?_
  refine lv_iadd hx hb dL_law_1321 ?_
  refine va_sld hx hb hX hbl hbA hM.2 (hin 5 (by decide)) dL_law_1322 ?_
  refine wl_callVl (As := [.int (xs (x3 + 1).toNatClampNeg), .int (xs (x3 + 2).toNatClampNeg), .int (xs (x3 + 3).toNatClampNeg), .int (xs (x3 + 4).toNatClampNeg), .int (xs (x3 + 5).toNatClampNeg)]) (rest := []) hx hb hml hts hown hK hM wt_rc_X4 cl_147 hl_X4_ill rfl ⟨qz_b rfl, qz_b rfl⟩ ⟨rfl, rfl⟩ hl.1 rfl (qz_b rfl) dL_law_1323 hcs (c_X4_ill h2) (fun H locs hM => ?_)
  refine lv_pop2_2 hx hb dL_law_1326 rfl ?_
  refine lv_goto (tgt := 1946) hx hb dL_law_1327 (by decide) ?_
  exact kk _ _ _ _ hI hM hl
set_option maxHeartbeats 4000000 in
set_option maxRecDepth 100000 in
theorem lw_case_32 {I : Mem → Prop} {F : Nat} (hok : wl_ok_32 I F) (hI : I σ) (C : wl_C p s m meth c b L xs D tI tII B) (hcs : cells ≤ room_1.cells ∧ slots ≤ room_1.slots) (hin : ∀ j : Int32, 0 ≤ j ∧ j ≤ 5 → vp_in (x3 + j) L) (hM : wt_St D tI tII B σ s H locs) (hl : lv_has ls 4 [(3, .int x3), (0, .ref b), (1, .ref (B + 0)), (2, .ref (B + 101))]) (kk : ∀ (σ2 : Mem) (H : Heap) (locs : List Loc) (ls : Array Slot), I σ2 → wt_St D tI tII B σ2 s H locs → lv_has ls 4 [(3, .int x3), (0, .ref b), (1, .ref (B + 0)), (2, .ref (B + 101))] → W p l e room_1 s m #[Value.ref b] below meth c H locs cells slots Q (F0 m 1946 ls [])) : W p l e room_1 s m #[Value.ref b] below meth c H locs cells slots Q (F0 m 1330 ls []) := by
  obtain ⟨hx, hb, hts, hown, hml, hX, hbl, hbA, hK⟩ := C
  obtain ⟨r1, σ1, r2, σ2, h1, h2, hI⟩ := hok σ (xs (x3 + 1).toNatClampNeg) hI
  refine lv_aload_n hx hb dL_law_1330 rfl (lv_at hl 2 rfl) ?_
  refine lv_aload_n hx hb dL_law_1331 rfl (lv_at hl 1 rfl) ?_
  refine lv_iload_n hx hb dL_law_1332 rfl (lv_at hl 0 rfl) ?_
  refine lv_iconst (v := 1) hx hb dL_law_1333 (by decide) ?_
  refine lv_iadd hx hb dL_law_1334 ?_
  refine va_sld hx hb hX hbl hbA hM.2 (hin 1 (by decide)) dL_law_1335 ?_
  refine wl_callVi (As := [.int (xs (x3 + 1).toNatClampNeg)]) (rest := []) hx hb hml hts hown hK hM wt_rc_X3 cl_148 hl_X3_busy rfl ⟨qz_b rfl, qz_b rfl⟩ ⟨rfl, rfl⟩ hl.1 rfl (qz_b rfl) dL_law_1336 hcs (c_X3_busy h1) (fun H locs hM => ?_)
  refine lv_pop hx hb dL_law_1339 rfl ?_
  refine lv_aload_n hx hb dL_law_1340 rfl (lv_at hl 3 rfl) ?_
  refine lv_aload_n hx hb dL_law_1341 rfl (lv_at hl 1 rfl) ?_
  refine lv_iload_n hx hb dL_law_1342 rfl (lv_at hl 0 rfl) ?_
  refine lv_iconst (v := 1) hx hb dL_law_1343 (by decide) ?_
  refine lv_iadd hx hb dL_law_1344 ?_
  refine va_sld hx hb hX hbl hbA hM.2 (hin 1 (by decide)) dL_law_1345 ?_
  refine wl_callVi (As := [.int (xs (x3 + 1).toNatClampNeg)]) (rest := []) hx hb hml hts hown hK hM wt_rc_X4 cl_151 hl_X4_busy rfl ⟨qz_b rfl, qz_b rfl⟩ ⟨rfl, rfl⟩ hl.1 rfl (qz_b rfl) dL_law_1346 hcs (c_X4_busy h2) (fun H locs hM => ?_)
  refine lv_pop hx hb dL_law_1349 rfl ?_
  refine lv_goto (tgt := 1946) hx hb dL_law_1350 (by decide) ?_
  exact kk _ _ _ _ hI hM hl
set_option maxHeartbeats 4000000 in
set_option maxRecDepth 100000 in
theorem lw_case_33 {I : Mem → Prop} {F : Nat} (hok : wl_ok_33 I F) (hI : I σ) (C : wl_C p s m meth c b L xs D tI tII B) (hcs : cells ≤ room_1.cells ∧ slots ≤ room_1.slots) (hin : ∀ j : Int32, 0 ≤ j ∧ j ≤ 5 → vp_in (x3 + j) L) (hM : wt_St D tI tII B σ s H locs) (hl : lv_has ls 4 [(3, .int x3), (0, .ref b), (1, .ref (B + 0)), (2, .ref (B + 101))]) (kk : ∀ (σ2 : Mem) (H : Heap) (locs : List Loc) (ls : Array Slot), I σ2 → wt_St D tI tII B σ2 s H locs → lv_has ls 4 [(3, .int x3), (0, .ref b), (1, .ref (B + 0)), (2, .ref (B + 101))] → W p l e room_1 s m #[Value.ref b] below meth c H locs cells slots Q (F0 m 1946 ls [])) : W p l e room_1 s m #[Value.ref b] below meth c H locs cells slots Q (F0 m 1353 ls []) := by
  obtain ⟨hx, hb, hts, hown, hml, hX, hbl, hbA, hK⟩ := C
  obtain ⟨r1, σ1, r2, σ2, h1, h2, hI⟩ := hok σ (xs (x3 + 1).toNatClampNeg) (xs (x3 + 2).toNatClampNeg) hI
  refine lv_aload_n hx hb dL_law_1353 rfl (lv_at hl 2 rfl) ?_
  refine lv_aload_n hx hb dL_law_1354 rfl (lv_at hl 1 rfl) ?_
  refine lv_iload_n hx hb dL_law_1355 rfl (lv_at hl 0 rfl) ?_
  refine lv_iconst (v := 1) hx hb dL_law_1356 (by decide) ?_
  refine lv_iadd hx hb dL_law_1357 ?_
  refine va_sld hx hb hX hbl hbA hM.2 (hin 1 (by decide)) dL_law_1358 ?_
  refine lv_aload_n hx hb dL_law_1359 rfl (lv_at hl 1 rfl) ?_
  refine lv_iload_n hx hb dL_law_1360 rfl (lv_at hl 0 rfl) ?_
  refine lv_iconst (v := 2) hx hb dL_law_1361 (by decide) ?_
  refine lv_iadd hx hb dL_law_1362 ?_
  refine va_sld hx hb hX hbl hbA hM.2 (hin 2 (by decide)) dL_law_1363 ?_
  refine wl_callVi (As := [.int (xs (x3 + 1).toNatClampNeg), .int (xs (x3 + 2).toNatClampNeg)]) (rest := []) hx hb hml hts hown hK hM wt_rc_X3 cl_152 hl_X3_together rfl ⟨qz_b rfl, qz_b rfl⟩ ⟨rfl, rfl⟩ hl.1 rfl (qz_b rfl) dL_law_1364 hcs (c_X3_together h1) (fun H locs hM => ?_)
  refine lv_pop hx hb dL_law_1367 rfl ?_
  refine lv_aload_n hx hb dL_law_1368 rfl (lv_at hl 3 rfl) ?_
  refine lv_aload_n hx hb dL_law_1369 rfl (lv_at hl 1 rfl) ?_
  refine lv_iload_n hx hb dL_law_1370 rfl (lv_at hl 0 rfl) ?_
  refine lv_iconst (v := 1) hx hb dL_law_1371 (by decide) ?_
  refine lv_iadd hx hb dL_law_1372 ?_
  refine va_sld hx hb hX hbl hbA hM.2 (hin 1 (by decide)) dL_law_1373 ?_
  refine lv_aload_n hx hb dL_law_1374 rfl (lv_at hl 1 rfl) ?_
  refine lv_iload_n hx hb dL_law_1375 rfl (lv_at hl 0 rfl) ?_
  refine lv_iconst (v := 2) hx hb dL_law_1376 (by decide) ?_
  refine lv_iadd hx hb dL_law_1377 ?_
  refine va_sld hx hb hX hbl hbA hM.2 (hin 2 (by decide)) dL_law_1378 ?_
  refine wl_callVi (As := [.int (xs (x3 + 1).toNatClampNeg), .int (xs (x3 + 2).toNatClampNeg)]) (rest := []) hx hb hml hts hown hK hM wt_rc_X4 cl_155 hl_X4_together rfl ⟨qz_b rfl, qz_b rfl⟩ ⟨rfl, rfl⟩ hl.1 rfl (qz_b rfl) dL_law_1379 hcs (c_X4_together h2) (fun H locs hM => ?_)
  refine lv_pop hx hb dL_law_1382 rfl ?_
  refine lv_goto (tgt := 1946) hx hb dL_law_1383 (by decide) ?_
  exact kk _ _ _ _ hI hM hl
set_option maxHeartbeats 4000000 in
set_option maxRecDepth 100000 in
theorem lw_case_34 {I : Mem → Prop} {F : Nat} (hok : wl_ok_34 I F) (hI : I σ) (C : wl_C p s m meth c b L xs D tI tII B) (hcs : cells ≤ room_1.cells ∧ slots ≤ room_1.slots) (hin : ∀ j : Int32, 0 ≤ j ∧ j ≤ 5 → vp_in (x3 + j) L) (hM : wt_St D tI tII B σ s H locs) (hl : lv_has ls 4 [(3, .int x3), (0, .ref b), (1, .ref (B + 0)), (2, .ref (B + 101))]) (kk : ∀ (σ2 : Mem) (H : Heap) (locs : List Loc) (ls : Array Slot), I σ2 → wt_St D tI tII B σ2 s H locs → lv_has ls 4 [(3, .int x3), (0, .ref b), (1, .ref (B + 0)), (2, .ref (B + 101))] → W p l e room_1 s m #[Value.ref b] below meth c H locs cells slots Q (F0 m 1946 ls [])) : W p l e room_1 s m #[Value.ref b] below meth c H locs cells slots Q (F0 m 1386 ls []) := by
  obtain ⟨hx, hb, hts, hown, hml, hX, hbl, hbA, hK⟩ := C
  obtain ⟨r1, σ1, r2, σ2, h1, h2, hI⟩ := hok σ (xs (x3 + 1).toNatClampNeg) hI
  refine lv_aload_n hx hb dL_law_1386 rfl (lv_at hl 2 rfl) ?_
  refine lv_aload_n hx hb dL_law_1387 rfl (lv_at hl 1 rfl) ?_
  refine lv_iload_n hx hb dL_law_1388 rfl (lv_at hl 0 rfl) ?_
  refine lv_iconst (v := 1) hx hb dL_law_1389 (by decide) ?_
  refine lv_iadd hx hb dL_law_1390 ?_
  refine va_sld hx hb hX hbl hbA hM.2 (hin 1 (by decide)) dL_law_1391 ?_
  refine wl_callVi (As := [.int (xs (x3 + 1).toNatClampNeg)]) (rest := []) hx hb hml hts hown hK hM wt_rc_X3 cl_156 hl_X3_swap rfl ⟨qz_b rfl, qz_b rfl⟩ ⟨rfl, rfl⟩ hl.1 rfl (qz_b rfl) dL_law_1392 hcs (c_X3_swap h1) (fun H locs hM => ?_)
  refine lv_pop hx hb dL_law_1395 rfl ?_
  refine lv_aload_n hx hb dL_law_1396 rfl (lv_at hl 3 rfl) ?_
  refine lv_aload_n hx hb dL_law_1397 rfl (lv_at hl 1 rfl) ?_
  refine lv_iload_n hx hb dL_law_1398 rfl (lv_at hl 0 rfl) ?_
  refine lv_iconst (v := 1) hx hb dL_law_1399 (by decide) ?_
  refine lv_iadd hx hb dL_law_1400 ?_
  refine va_sld hx hb hX hbl hbA hM.2 (hin 1 (by decide)) dL_law_1401 ?_
  refine wl_callVi (As := [.int (xs (x3 + 1).toNatClampNeg)]) (rest := []) hx hb hml hts hown hK hM wt_rc_X4 cl_159 hl_X4_swap rfl ⟨qz_b rfl, qz_b rfl⟩ ⟨rfl, rfl⟩ hl.1 rfl (qz_b rfl) dL_law_1402 hcs (c_X4_swap h2) (fun H locs hM => ?_)
  refine lv_pop hx hb dL_law_1405 rfl ?_
  refine lv_goto (tgt := 1946) hx hb dL_law_1406 (by decide) ?_
  exact kk _ _ _ _ hI hM hl
set_option maxHeartbeats 4000000 in
set_option maxRecDepth 100000 in
theorem lw_case_35 {I : Mem → Prop} {F : Nat} (hok : wl_ok_35 I F) (hI : I σ) (C : wl_C p s m meth c b L xs D tI tII B) (hcs : cells ≤ room_1.cells ∧ slots ≤ room_1.slots) (hin : ∀ j : Int32, 0 ≤ j ∧ j ≤ 5 → vp_in (x3 + j) L) (hM : wt_St D tI tII B σ s H locs) (hl : lv_has ls 4 [(3, .int x3), (0, .ref b), (1, .ref (B + 0)), (2, .ref (B + 101))]) (kk : ∀ (σ2 : Mem) (H : Heap) (locs : List Loc) (ls : Array Slot), I σ2 → wt_St D tI tII B σ2 s H locs → lv_has ls 4 [(3, .int x3), (0, .ref b), (1, .ref (B + 0)), (2, .ref (B + 101))] → W p l e room_1 s m #[Value.ref b] below meth c H locs cells slots Q (F0 m 1946 ls [])) : W p l e room_1 s m #[Value.ref b] below meth c H locs cells slots Q (F0 m 1409 ls []) := by
  obtain ⟨hx, hb, hts, hown, hml, hX, hbl, hbA, hK⟩ := C
  obtain ⟨r1, σ1, r2, σ2, h1, h2, hI⟩ := hok σ (xs (x3 + 1).toNatClampNeg) (xs (x3 + 2).toNatClampNeg) (xs (x3 + 3).toNatClampNeg) hI
  refine lv_aload_n hx hb dL_law_1409 rfl (lv_at hl 2 rfl) ?_
  refine lv_aload_n hx hb dL_law_1410 rfl (lv_at hl 1 rfl) ?_
  refine lv_iload_n hx hb dL_law_1411 rfl (lv_at hl 0 rfl) ?_
  refine lv_iconst (v := 1) hx hb dL_law_1412 (by decide) ?_
  refine lv_iadd hx hb dL_law_1413 ?_
  refine va_sld hx hb hX hbl hbA hM.2 (hin 1 (by decide)) dL_law_1414 ?_
  refine lv_aload_n hx hb dL_law_1415 rfl (lv_at hl 1 rfl) ?_
  refine lv_iload_n hx hb dL_law_1416 rfl (lv_at hl 0 rfl) ?_
  refine lv_iconst (v := 2) hx hb dL_law_1417 (by decide) ?_
  refine lv_iadd hx hb dL_law_1418 ?_
  refine va_sld hx hb hX hbl hbA hM.2 (hin 2 (by decide)) dL_law_1419 ?_
  refine lv_aload_n hx hb dL_law_1420 rfl (lv_at hl 1 rfl) ?_
  refine lv_iload_n hx hb dL_law_1421 rfl (lv_at hl 0 rfl) ?_
  refine lv_iconst (v := 3) hx hb dL_law_1422 (by decide) ?_
  refine lv_iadd hx hb dL_law_1423 ?_
  refine va_sld hx hb hX hbl hbA hM.2 (hin 3 (by decide)) dL_law_1424 ?_
  refine wl_callVi (As := [.int (xs (x3 + 1).toNatClampNeg), .int (xs (x3 + 2).toNatClampNeg), .int (xs (x3 + 3).toNatClampNeg)]) (rest := []) hx hb hml hts hown hK hM wt_rc_X3 cl_160 hl_X3_heir rfl ⟨qz_b rfl, qz_b rfl⟩ ⟨rfl, rfl⟩ hl.1 rfl (qz_b rfl) dL_law_1425 hcs (c_X3_heir h1) (fun H locs hM => ?_)
  refine lv_pop hx hb dL_law_1428 rfl ?_
  refine lv_aload_n hx hb dL_law_1429 rfl (lv_at hl 3 rfl) ?_
  refine lv_aload_n hx hb dL_law_1430 rfl (lv_at hl 1 rfl) ?_
  refine lv_iload_n hx hb dL_law_1431 rfl (lv_at hl 0 rfl) ?_
  refine lv_iconst (v := 1) hx hb dL_law_1432 (by decide) ?_
  refine lv_iadd hx hb dL_law_1433 ?_
  refine va_sld hx hb hX hbl hbA hM.2 (hin 1 (by decide)) dL_law_1434 ?_
  refine lv_aload_n hx hb dL_law_1435 rfl (lv_at hl 1 rfl) ?_
  refine lv_iload_n hx hb dL_law_1436 rfl (lv_at hl 0 rfl) ?_
  refine lv_iconst (v := 2) hx hb dL_law_1437 (by decide) ?_
  refine lv_iadd hx hb dL_law_1438 ?_
  refine va_sld hx hb hX hbl hbA hM.2 (hin 2 (by decide)) dL_law_1439 ?_
  refine lv_aload_n hx hb dL_law_1440 rfl (lv_at hl 1 rfl) ?_
  refine lv_iload_n hx hb dL_law_1441 rfl (lv_at hl 0 rfl) ?_
  refine lv_iconst (v := 3) hx hb dL_law_1442 (by decide) ?_
  refine lv_iadd hx hb dL_law_1443 ?_
  refine va_sld hx hb hX hbl hbA hM.2 (hin 3 (by decide)) dL_law_1444 ?_
  refine wl_callVi (As := [.int (xs (x3 + 1).toNatClampNeg), .int (xs (x3 + 2).toNatClampNeg), .int (xs (x3 + 3).toNatClampNeg)]) (rest := []) hx hb hml hts hown hK hM wt_rc_X4 cl_163 hl_X4_heir rfl ⟨qz_b rfl, qz_b rfl⟩ ⟨rfl, rfl⟩ hl.1 rfl (qz_b rfl) dL_law_1445 hcs (c_X4_heir h2) (fun H locs hM => ?_)
  refine lv_pop hx hb dL_law_1448 rfl ?_
  refine lv_goto (tgt := 1946) hx hb dL_law_1449 (by decide) ?_
  exact kk _ _ _ _ hI hM hl
set_option maxHeartbeats 4000000 in
set_option maxRecDepth 100000 in
theorem lw_case_36 {I : Mem → Prop} {F : Nat} (hok : wl_ok_36 I F) (hI : I σ) (C : wl_C p s m meth c b L xs D tI tII B) (hcs : cells ≤ room_1.cells ∧ slots ≤ room_1.slots) (hin : ∀ j : Int32, 0 ≤ j ∧ j ≤ 5 → vp_in (x3 + j) L) (hM : wt_St D tI tII B σ s H locs) (hl : lv_has ls 4 [(3, .int x3), (0, .ref b), (1, .ref (B + 0)), (2, .ref (B + 101))]) (kk : ∀ (σ2 : Mem) (H : Heap) (locs : List Loc) (ls : Array Slot), I σ2 → wt_St D tI tII B σ2 s H locs → lv_has ls 4 [(3, .int x3), (0, .ref b), (1, .ref (B + 0)), (2, .ref (B + 101))] → W p l e room_1 s m #[Value.ref b] below meth c H locs cells slots Q (F0 m 1946 ls [])) : W p l e room_1 s m #[Value.ref b] below meth c H locs cells slots Q (F0 m 1452 ls []) := by
  obtain ⟨hx, hb, hts, hown, hml, hX, hbl, hbA, hK⟩ := C
  obtain ⟨r1, σ1, r2, σ2, h1, h2, hI⟩ := hok σ (xs (x3 + 1).toNatClampNeg) hI
  refine lv_aload_n hx hb dL_law_1452 rfl (lv_at hl 2 rfl) ?_
  refine lv_aload_n hx hb dL_law_1453 rfl (lv_at hl 1 rfl) ?_
  refine lv_iload_n hx hb dL_law_1454 rfl (lv_at hl 0 rfl) ?_
  refine lv_iconst (v := 1) hx hb dL_law_1455 (by decide) ?_
  refine lv_iadd hx hb dL_law_1456 ?_
  refine va_sld hx hb hX hbl hbA hM.2 (hin 1 (by decide)) dL_law_1457 ?_
  refine wl_callVi (As := [.int (xs (x3 + 1).toNatClampNeg)]) (rest := []) hx hb hml hts hown hK hM wt_rc_X3 cl_164 hl_X3_even rfl ⟨qz_b rfl, qz_b rfl⟩ ⟨rfl, rfl⟩ hl.1 rfl (qz_b rfl) dL_law_1458 hcs (c_X3_even h1) (fun H locs hM => ?_)
  refine lv_pop hx hb dL_law_1461 rfl ?_
  refine lv_aload_n hx hb dL_law_1462 rfl (lv_at hl 3 rfl) ?_
  refine lv_aload_n hx hb dL_law_1463 rfl (lv_at hl 1 rfl) ?_
  refine lv_iload_n hx hb dL_law_1464 rfl (lv_at hl 0 rfl) ?_
  refine lv_iconst (v := 1) hx hb dL_law_1465 (by decide) ?_
  refine lv_iadd hx hb dL_law_1466 ?_
  refine va_sld hx hb hX hbl hbA hM.2 (hin 1 (by decide)) dL_law_1467 ?_
  refine wl_callVi (As := [.int (xs (x3 + 1).toNatClampNeg)]) (rest := []) hx hb hml hts hown hK hM wt_rc_X4 cl_167 hl_X4_even rfl ⟨qz_b rfl, qz_b rfl⟩ ⟨rfl, rfl⟩ hl.1 rfl (qz_b rfl) dL_law_1468 hcs (c_X4_even h2) (fun H locs hM => ?_)
  refine lv_pop hx hb dL_law_1471 rfl ?_
  refine lv_goto (tgt := 1946) hx hb dL_law_1472 (by decide) ?_
  exact kk _ _ _ _ hI hM hl
set_option maxHeartbeats 4000000 in
set_option maxRecDepth 100000 in
theorem lw_case_37 {I : Mem → Prop} {F : Nat} (hok : wl_ok_37 I F) (hI : I σ) (C : wl_C p s m meth c b L xs D tI tII B) (hcs : cells ≤ room_1.cells ∧ slots ≤ room_1.slots) (hin : ∀ j : Int32, 0 ≤ j ∧ j ≤ 5 → vp_in (x3 + j) L) (hM : wt_St D tI tII B σ s H locs) (hl : lv_has ls 4 [(3, .int x3), (0, .ref b), (1, .ref (B + 0)), (2, .ref (B + 101))]) (kk : ∀ (σ2 : Mem) (H : Heap) (locs : List Loc) (ls : Array Slot), I σ2 → wt_St D tI tII B σ2 s H locs → lv_has ls 4 [(3, .int x3), (0, .ref b), (1, .ref (B + 0)), (2, .ref (B + 101))] → W p l e room_1 s m #[Value.ref b] below meth c H locs cells slots Q (F0 m 1946 ls [])) : W p l e room_1 s m #[Value.ref b] below meth c H locs cells slots Q (F0 m 1475 ls []) := by
  obtain ⟨hx, hb, hts, hown, hml, hX, hbl, hbA, hK⟩ := C
  obtain ⟨r1, σ1, r2, σ2, h1, h2, hI⟩ := hok σ hI
  refine lv_aload_n hx hb dL_law_1475 rfl (lv_at hl 2 rfl) ?_
  refine wl_callVi (As := []) (rest := []) hx hb hml hts hown hK hM wt_rc_X3 cl_168 hl_X3_last rfl ⟨qz_b rfl, qz_b rfl⟩ ⟨rfl, rfl⟩ hl.1 rfl (qz_b rfl) dL_law_1476 hcs (c_X3_last h1) (fun H locs hM => ?_)
  refine lv_pop hx hb dL_law_1479 rfl ?_
  refine lv_aload_n hx hb dL_law_1480 rfl (lv_at hl 3 rfl) ?_
  refine wl_callVi (As := []) (rest := []) hx hb hml hts hown hK hM wt_rc_X4 cl_171 hl_X4_last rfl ⟨qz_b rfl, qz_b rfl⟩ ⟨rfl, rfl⟩ hl.1 rfl (qz_b rfl) dL_law_1481 hcs (c_X4_last h2) (fun H locs hM => ?_)
  refine lv_pop hx hb dL_law_1484 rfl ?_
  refine lv_goto (tgt := 1946) hx hb dL_law_1485 (by decide) ?_
  exact kk _ _ _ _ hI hM hl
set_option maxHeartbeats 4000000 in
set_option maxRecDepth 100000 in
theorem lw_case_38 {I : Mem → Prop} {F : Nat} (hok : wl_ok_38 I F) (hI : I σ) (C : wl_C p s m meth c b L xs D tI tII B) (hcs : cells ≤ room_1.cells ∧ slots ≤ room_1.slots) (hin : ∀ j : Int32, 0 ≤ j ∧ j ≤ 5 → vp_in (x3 + j) L) (hM : wt_St D tI tII B σ s H locs) (hl : lv_has ls 4 [(3, .int x3), (0, .ref b), (1, .ref (B + 0)), (2, .ref (B + 101))]) (kk : ∀ (σ2 : Mem) (H : Heap) (locs : List Loc) (ls : Array Slot), I σ2 → wt_St D tI tII B σ2 s H locs → lv_has ls 4 [(3, .int x3), (0, .ref b), (1, .ref (B + 0)), (2, .ref (B + 101))] → W p l e room_1 s m #[Value.ref b] below meth c H locs cells slots Q (F0 m 1946 ls [])) : W p l e room_1 s m #[Value.ref b] below meth c H locs cells slots Q (F0 m 1488 ls []) := by
  obtain ⟨hx, hb, hts, hown, hml, hX, hbl, hbA, hK⟩ := C
  obtain ⟨r1, σ1, r2, σ2, h1, h2, hI⟩ := hok σ (xs (x3 + 1).toNatClampNeg) (xs (x3 + 2).toNatClampNeg) (xs (x3 + 3).toNatClampNeg) hI
  refine lv_aload_n hx hb dL_law_1488 rfl (lv_at hl 2 rfl) ?_
  refine lv_aload_n hx hb dL_law_1489 rfl (lv_at hl 1 rfl) ?_
  refine lv_iload_n hx hb dL_law_1490 rfl (lv_at hl 0 rfl) ?_
  refine lv_iconst (v := 1) hx hb dL_law_1491 (by decide) ?_
  refine lv_iadd hx hb dL_law_1492 ?_
  refine va_sld hx hb hX hbl hbA hM.2 (hin 1 (by decide)) dL_law_1493 ?_
  refine lv_aload_n hx hb dL_law_1494 rfl (lv_at hl 1 rfl) ?_
  refine lv_iload_n hx hb dL_law_1495 rfl (lv_at hl 0 rfl) ?_
  refine lv_iconst (v := 2) hx hb dL_law_1496 (by decide) ?_
  refine lv_iadd hx hb dL_law_1497 ?_
  refine va_sld hx hb hX hbl hbA hM.2 (hin 2 (by decide)) dL_law_1498 ?_
  refine lv_aload_n hx hb dL_law_1499 rfl (lv_at hl 1 rfl) ?_
  refine lv_iload_n hx hb dL_law_1500 rfl (lv_at hl 0 rfl) ?_
  refine lv_iconst (v := 3) hx hb dL_law_1501 (by decide) ?_
  refine lv_iadd hx hb dL_law_1502 ?_
  refine va_sld hx hb hX hbl hbA hM.2 (hin 3 (by decide)) dL_law_1503 ?_
  refine wl_callVi (As := [.int (xs (x3 + 1).toNatClampNeg), .int (xs (x3 + 2).toNatClampNeg), .int (xs (x3 + 3).toNatClampNeg)]) (rest := []) hx hb hml hts hown hK hM wt_rc_X3 cl_172 hl_X3_joint rfl ⟨qz_b rfl, qz_b rfl⟩ ⟨rfl, rfl⟩ hl.1 rfl (qz_b rfl) dL_law_1504 hcs (c_X3_joint h1) (fun H locs hM => ?_)
  refine lv_pop hx hb dL_law_1507 rfl ?_
  refine lv_aload_n hx hb dL_law_1508 rfl (lv_at hl 3 rfl) ?_
  refine lv_aload_n hx hb dL_law_1509 rfl (lv_at hl 1 rfl) ?_
  refine lv_iload_n hx hb dL_law_1510 rfl (lv_at hl 0 rfl) ?_
  refine lv_iconst (v := 1) hx hb dL_law_1511 (by decide) ?_
  refine lv_iadd hx hb dL_law_1512 ?_
  refine va_sld hx hb hX hbl hbA hM.2 (hin 1 (by decide)) dL_law_1513 ?_
  refine lv_aload_n hx hb dL_law_1514 rfl (lv_at hl 1 rfl) ?_
  refine lv_iload_n hx hb dL_law_1515 rfl (lv_at hl 0 rfl) ?_
  refine lv_iconst (v := 2) hx hb dL_law_1516 (by decide) ?_
  refine lv_iadd hx hb dL_law_1517 ?_
  refine va_sld hx hb hX hbl hbA hM.2 (hin 2 (by decide)) dL_law_1518 ?_
  refine lv_aload_n hx hb dL_law_1519 rfl (lv_at hl 1 rfl) ?_
  refine lv_iload_n hx hb dL_law_1520 rfl (lv_at hl 0 rfl) ?_
  refine lv_iconst (v := 3) hx hb dL_law_1521 (by decide) ?_
  refine lv_iadd hx hb dL_law_1522 ?_
  refine va_sld hx hb hX hbl hbA hM.2 (hin 3 (by decide)) dL_law_1523 ?_
  refine wl_callVi (As := [.int (xs (x3 + 1).toNatClampNeg), .int (xs (x3 + 2).toNatClampNeg), .int (xs (x3 + 3).toNatClampNeg)]) (rest := []) hx hb hml hts hown hK hM wt_rc_X4 cl_175 hl_X4_joint rfl ⟨qz_b rfl, qz_b rfl⟩ ⟨rfl, rfl⟩ hl.1 rfl (qz_b rfl) dL_law_1524 hcs (c_X4_joint h2) (fun H locs hM => ?_)
  refine lv_pop hx hb dL_law_1527 rfl ?_
  refine lv_goto (tgt := 1946) hx hb dL_law_1528 (by decide) ?_
  exact kk _ _ _ _ hI hM hl
set_option maxHeartbeats 4000000 in
set_option maxRecDepth 100000 in
theorem lw_case_39 {I : Mem → Prop} {F : Nat} (hok : wl_ok_39 I F) (hI : I σ) (C : wl_C p s m meth c b L xs D tI tII B) (hcs : cells ≤ room_1.cells ∧ slots ≤ room_1.slots) (hin : ∀ j : Int32, 0 ≤ j ∧ j ≤ 5 → vp_in (x3 + j) L) (hM : wt_St D tI tII B σ s H locs) (hl : lv_has ls 4 [(3, .int x3), (0, .ref b), (1, .ref (B + 0)), (2, .ref (B + 101))]) (kk : ∀ (σ2 : Mem) (H : Heap) (locs : List Loc) (ls : Array Slot), I σ2 → wt_St D tI tII B σ2 s H locs → lv_has ls 4 [(3, .int x3), (0, .ref b), (1, .ref (B + 0)), (2, .ref (B + 101))] → W p l e room_1 s m #[Value.ref b] below meth c H locs cells slots Q (F0 m 1946 ls [])) : W p l e room_1 s m #[Value.ref b] below meth c H locs cells slots Q (F0 m 1531 ls []) := by
  obtain ⟨hx, hb, hts, hown, hml, hX, hbl, hbA, hK⟩ := C
  obtain ⟨r1, σ1, r2, σ2, h1, h2, hI⟩ := hok σ (xs (x3 + 1).toNatClampNeg) (xs (x3 + 2).toNatClampNeg) hI
  refine lv_aload_n hx hb dL_law_1531 rfl (lv_at hl 2 rfl) ?_
  refine lv_aload_n hx hb dL_law_1532 rfl (lv_at hl 1 rfl) ?_
  refine lv_iload_n hx hb dL_law_1533 rfl (lv_at hl 0 rfl) ?_
  refine lv_iconst (v := 1) hx hb dL_law_1534 (by decide) ?_
  refine lv_iadd hx hb dL_law_1535 ?_
  refine va_sld hx hb hX hbl hbA hM.2 (hin 1 (by decide)) dL_law_1536 ?_
  refine lv_aload_n hx hb dL_law_1537 rfl (lv_at hl 1 rfl) ?_
  refine lv_iload_n hx hb dL_law_1538 rfl (lv_at hl 0 rfl) ?_
  refine lv_iconst (v := 2) hx hb dL_law_1539 (by decide) ?_
  refine lv_iadd hx hb dL_law_1540 ?_
  refine va_sld hx hb hX hbl hbA hM.2 (hin 2 (by decide)) dL_law_1541 ?_
  refine wl_callVi (As := [.int (xs (x3 + 1).toNatClampNeg), .int (xs (x3 + 2).toNatClampNeg)]) (rest := []) hx hb hml hts hown hK hM wt_rc_X3 cl_176 hl_X3_rank rfl ⟨qz_b rfl, qz_b rfl⟩ ⟨rfl, rfl⟩ hl.1 rfl (qz_b rfl) dL_law_1542 hcs (c_X3_rank h1) (fun H locs hM => ?_)
  refine lv_pop hx hb dL_law_1545 rfl ?_
  refine lv_aload_n hx hb dL_law_1546 rfl (lv_at hl 3 rfl) ?_
  refine lv_aload_n hx hb dL_law_1547 rfl (lv_at hl 1 rfl) ?_
  refine lv_iload_n hx hb dL_law_1548 rfl (lv_at hl 0 rfl) ?_
  refine lv_iconst (v := 1) hx hb dL_law_1549 (by decide) ?_
  refine lv_iadd hx hb dL_law_1550 ?_
  refine va_sld hx hb hX hbl hbA hM.2 (hin 1 (by decide)) dL_law_1551 ?_
  refine lv_aload_n hx hb dL_law_1552 rfl (lv_at hl 1 rfl) ?_
  refine lv_iload_n hx hb dL_law_1553 rfl (lv_at hl 0 rfl) ?_
  refine lv_iconst (v := 2) hx hb dL_law_1554 (by decide) ?_
  refine lv_iadd hx hb dL_law_1555 ?_
  refine va_sld hx hb hX hbl hbA hM.2 (hin 2 (by decide)) dL_law_1556 ?_
  refine wl_callVi (As := [.int (xs (x3 + 1).toNatClampNeg), .int (xs (x3 + 2).toNatClampNeg)]) (rest := []) hx hb hml hts hown hK hM wt_rc_X4 cl_179 hl_X4_rank rfl ⟨qz_b rfl, qz_b rfl⟩ ⟨rfl, rfl⟩ hl.1 rfl (qz_b rfl) dL_law_1557 hcs (c_X4_rank h2) (fun H locs hM => ?_)
  refine lv_pop hx hb dL_law_1560 rfl ?_
  refine lv_goto (tgt := 1946) hx hb dL_law_1561 (by decide) ?_
  exact kk _ _ _ _ hI hM hl
set_option maxHeartbeats 4000000 in
set_option maxRecDepth 100000 in
theorem lw_case_40 {I : Mem → Prop} {F : Nat} (hok : wl_ok_40 I F) (hI : I σ) (C : wl_C p s m meth c b L xs D tI tII B) (hcs : cells ≤ room_1.cells ∧ slots ≤ room_1.slots) (hin : ∀ j : Int32, 0 ≤ j ∧ j ≤ 5 → vp_in (x3 + j) L) (hM : wt_St D tI tII B σ s H locs) (hl : lv_has ls 4 [(3, .int x3), (0, .ref b), (1, .ref (B + 0)), (2, .ref (B + 101))]) (kk : ∀ (σ2 : Mem) (H : Heap) (locs : List Loc) (ls : Array Slot), I σ2 → wt_St D tI tII B σ2 s H locs → lv_has ls 4 [(3, .int x3), (0, .ref b), (1, .ref (B + 0)), (2, .ref (B + 101))] → W p l e room_1 s m #[Value.ref b] below meth c H locs cells slots Q (F0 m 1946 ls [])) : W p l e room_1 s m #[Value.ref b] below meth c H locs cells slots Q (F0 m 1564 ls []) := by
  obtain ⟨hx, hb, hts, hown, hml, hX, hbl, hbA, hK⟩ := C
  obtain ⟨r1, σ1, r2, σ2, h1, h2, hI⟩ := hok σ (xs (x3 + 1).toNatClampNeg) (xs (x3 + 2).toNatClampNeg) hI
  refine lv_aload_n hx hb dL_law_1564 rfl (lv_at hl 2 rfl) ?_
  refine lv_aload_n hx hb dL_law_1565 rfl (lv_at hl 1 rfl) ?_
  refine lv_iload_n hx hb dL_law_1566 rfl (lv_at hl 0 rfl) ?_
  refine lv_iconst (v := 1) hx hb dL_law_1567 (by decide) ?_
  refine lv_iadd hx hb dL_law_1568 ?_
  refine va_sld hx hb hX hbl hbA hM.2 (hin 1 (by decide)) dL_law_1569 ?_
  refine lv_aload_n hx hb dL_law_1570 rfl (lv_at hl 1 rfl) ?_
  refine lv_iload_n hx hb dL_law_1571 rfl (lv_at hl 0 rfl) ?_
  refine lv_iconst (v := 2) hx hb dL_law_1572 (by decide) ?_
  refine lv_iadd hx hb dL_law_1573 ?_
  refine va_sld hx hb hX hbl hbA hM.2 (hin 2 (by decide)) dL_law_1574 ?_
  refine wl_callVi (As := [.int (xs (x3 + 1).toNatClampNeg), .int (xs (x3 + 2).toNatClampNeg)]) (rest := []) hx hb hml hts hown hK hM wt_rc_X3 cl_180 hl_X3_gap rfl ⟨qz_b rfl, qz_b rfl⟩ ⟨rfl, rfl⟩ hl.1 rfl (qz_b rfl) dL_law_1575 hcs (c_X3_gap h1) (fun H locs hM => ?_)
  refine lv_pop hx hb dL_law_1578 rfl ?_
  refine lv_aload_n hx hb dL_law_1579 rfl (lv_at hl 3 rfl) ?_
  refine lv_aload_n hx hb dL_law_1580 rfl (lv_at hl 1 rfl) ?_
  refine lv_iload_n hx hb dL_law_1581 rfl (lv_at hl 0 rfl) ?_
  refine lv_iconst (v := 1) hx hb dL_law_1582 (by decide) ?_
  refine lv_iadd hx hb dL_law_1583 ?_
  refine va_sld hx hb hX hbl hbA hM.2 (hin 1 (by decide)) dL_law_1584 ?_
  refine lv_aload_n hx hb dL_law_1585 rfl (lv_at hl 1 rfl) ?_
  refine lv_iload_n hx hb dL_law_1586 rfl (lv_at hl 0 rfl) ?_
  refine lv_iconst (v := 2) hx hb dL_law_1587 (by decide) ?_
  refine lv_iadd hx hb dL_law_1588 ?_
  refine va_sld hx hb hX hbl hbA hM.2 (hin 2 (by decide)) dL_law_1589 ?_
  refine wl_callVi (As := [.int (xs (x3 + 1).toNatClampNeg), .int (xs (x3 + 2).toNatClampNeg)]) (rest := []) hx hb hml hts hown hK hM wt_rc_X4 cl_183 hl_X4_gap rfl ⟨qz_b rfl, qz_b rfl⟩ ⟨rfl, rfl⟩ hl.1 rfl (qz_b rfl) dL_law_1590 hcs (c_X4_gap h2) (fun H locs hM => ?_)
  refine lv_pop hx hb dL_law_1593 rfl ?_
  refine lv_goto (tgt := 1946) hx hb dL_law_1594 (by decide) ?_
  exact kk _ _ _ _ hI hM hl
set_option maxHeartbeats 4000000 in
set_option maxRecDepth 100000 in
theorem lw_case_41 {I : Mem → Prop} {F : Nat} (hok : wl_ok_41 I F) (hI : I σ) (C : wl_C p s m meth c b L xs D tI tII B) (hcs : cells ≤ room_1.cells ∧ slots ≤ room_1.slots) (hin : ∀ j : Int32, 0 ≤ j ∧ j ≤ 5 → vp_in (x3 + j) L) (hM : wt_St D tI tII B σ s H locs) (hl : lv_has ls 4 [(3, .int x3), (0, .ref b), (1, .ref (B + 0)), (2, .ref (B + 101))]) (kk : ∀ (σ2 : Mem) (H : Heap) (locs : List Loc) (ls : Array Slot), I σ2 → wt_St D tI tII B σ2 s H locs → lv_has ls 4 [(3, .int x3), (0, .ref b), (1, .ref (B + 0)), (2, .ref (B + 101))] → W p l e room_1 s m #[Value.ref b] below meth c H locs cells slots Q (F0 m 1946 ls [])) : W p l e room_1 s m #[Value.ref b] below meth c H locs cells slots Q (F0 m 1597 ls []) := by
  obtain ⟨hx, hb, hts, hown, hml, hX, hbl, hbA, hK⟩ := C
  obtain ⟨r1, σ1, r2, σ2, h1, h2, hI⟩ := hok σ (xs (x3 + 1).toNatClampNeg) (xs (x3 + 2).toNatClampNeg) hI
  refine lv_aload_n hx hb dL_law_1597 rfl (lv_at hl 2 rfl) ?_
  refine lv_aload_n hx hb dL_law_1598 rfl (lv_at hl 1 rfl) ?_
  refine lv_iload_n hx hb dL_law_1599 rfl (lv_at hl 0 rfl) ?_
  refine lv_iconst (v := 1) hx hb dL_law_1600 (by decide) ?_
  refine lv_iadd hx hb dL_law_1601 ?_
  refine va_sld hx hb hX hbl hbA hM.2 (hin 1 (by decide)) dL_law_1602 ?_
  refine lv_aload_n hx hb dL_law_1603 rfl (lv_at hl 1 rfl) ?_
  refine lv_iload_n hx hb dL_law_1604 rfl (lv_at hl 0 rfl) ?_
  refine lv_iconst (v := 2) hx hb dL_law_1605 (by decide) ?_
  refine lv_iadd hx hb dL_law_1606 ?_
  refine va_sld hx hb hX hbl hbA hM.2 (hin 2 (by decide)) dL_law_1607 ?_
  refine wl_callVi (As := [.int (xs (x3 + 1).toNatClampNeg), .int (xs (x3 + 2).toNatClampNeg)]) (rest := []) hx hb hml hts hown hK hM wt_rc_X3 cl_184 hl_X3_wasted rfl ⟨qz_b rfl, qz_b rfl⟩ ⟨rfl, rfl⟩ hl.1 rfl (qz_b rfl) dL_law_1608 hcs (c_X3_wasted h1) (fun H locs hM => ?_)
  refine lv_pop hx hb dL_law_1611 rfl ?_
  refine lv_aload_n hx hb dL_law_1612 rfl (lv_at hl 3 rfl) ?_
  refine lv_aload_n hx hb dL_law_1613 rfl (lv_at hl 1 rfl) ?_
  refine lv_iload_n hx hb dL_law_1614 rfl (lv_at hl 0 rfl) ?_
  refine lv_iconst (v := 1) hx hb dL_law_1615 (by decide) ?_
  refine lv_iadd hx hb dL_law_1616 ?_
  refine va_sld hx hb hX hbl hbA hM.2 (hin 1 (by decide)) dL_law_1617 ?_
  refine lv_aload_n hx hb dL_law_1618 rfl (lv_at hl 1 rfl) ?_
  refine lv_iload_n hx hb dL_law_1619 rfl (lv_at hl 0 rfl) ?_
  refine lv_iconst (v := 2) hx hb dL_law_1620 (by decide) ?_
  refine lv_iadd hx hb dL_law_1621 ?_
  refine va_sld hx hb hX hbl hbA hM.2 (hin 2 (by decide)) dL_law_1622 ?_
  refine wl_callVi (As := [.int (xs (x3 + 1).toNatClampNeg), .int (xs (x3 + 2).toNatClampNeg)]) (rest := []) hx hb hml hts hown hK hM wt_rc_X4 cl_187 hl_X4_wasted rfl ⟨qz_b rfl, qz_b rfl⟩ ⟨rfl, rfl⟩ hl.1 rfl (qz_b rfl) dL_law_1623 hcs (c_X4_wasted h2) (fun H locs hM => ?_)
  refine lv_pop hx hb dL_law_1626 rfl ?_
  refine lv_goto (tgt := 1946) hx hb dL_law_1627 (by decide) ?_
  exact kk _ _ _ _ hI hM hl
set_option maxHeartbeats 4000000 in
set_option maxRecDepth 100000 in
theorem lw_case_42 {I : Mem → Prop} {F : Nat} (hok : wl_ok_42 I F) (hI : I σ) (C : wl_C p s m meth c b L xs D tI tII B) (hcs : cells ≤ room_1.cells ∧ slots ≤ room_1.slots) (hin : ∀ j : Int32, 0 ≤ j ∧ j ≤ 5 → vp_in (x3 + j) L) (hM : wt_St D tI tII B σ s H locs) (hl : lv_has ls 4 [(3, .int x3), (0, .ref b), (1, .ref (B + 0)), (2, .ref (B + 101))]) (kk : ∀ (σ2 : Mem) (H : Heap) (locs : List Loc) (ls : Array Slot), I σ2 → wt_St D tI tII B σ2 s H locs → lv_has ls 4 [(3, .int x3), (0, .ref b), (1, .ref (B + 0)), (2, .ref (B + 101))] → W p l e room_1 s m #[Value.ref b] below meth c H locs cells slots Q (F0 m 1946 ls [])) : W p l e room_1 s m #[Value.ref b] below meth c H locs cells slots Q (F0 m 1630 ls []) := by
  obtain ⟨hx, hb, hts, hown, hml, hX, hbl, hbA, hK⟩ := C
  obtain ⟨r1, σ1, r2, σ2, h1, h2, hI⟩ := hok σ (xs (x3 + 1).toNatClampNeg) (xs (x3 + 2).toNatClampNeg) hI
  refine lv_aload_n hx hb dL_law_1630 rfl (lv_at hl 2 rfl) ?_
  refine lv_aload_n hx hb dL_law_1631 rfl (lv_at hl 1 rfl) ?_
  refine lv_iload_n hx hb dL_law_1632 rfl (lv_at hl 0 rfl) ?_
  refine lv_iconst (v := 1) hx hb dL_law_1633 (by decide) ?_
  refine lv_iadd hx hb dL_law_1634 ?_
  refine va_sld hx hb hX hbl hbA hM.2 (hin 1 (by decide)) dL_law_1635 ?_
  refine lv_aload_n hx hb dL_law_1636 rfl (lv_at hl 1 rfl) ?_
  refine lv_iload_n hx hb dL_law_1637 rfl (lv_at hl 0 rfl) ?_
  refine lv_iconst (v := 2) hx hb dL_law_1638 (by decide) ?_
  refine lv_iadd hx hb dL_law_1639 ?_
  refine va_sld hx hb hX hbl hbA hM.2 (hin 2 (by decide)) dL_law_1640 ?_
  refine wl_callVi (As := [.int (xs (x3 + 1).toNatClampNeg), .int (xs (x3 + 2).toNatClampNeg)]) (rest := []) hx hb hml hts hown hK hM wt_rc_X3 cl_188 hl_X3_ahead rfl ⟨qz_b rfl, qz_b rfl⟩ ⟨rfl, rfl⟩ hl.1 rfl (qz_b rfl) dL_law_1641 hcs (c_X3_ahead h1) (fun H locs hM => ?_)
  refine lv_pop hx hb dL_law_1644 rfl ?_
  refine lv_aload_n hx hb dL_law_1645 rfl (lv_at hl 3 rfl) ?_
  refine lv_aload_n hx hb dL_law_1646 rfl (lv_at hl 1 rfl) ?_
  refine lv_iload_n hx hb dL_law_1647 rfl (lv_at hl 0 rfl) ?_
  refine lv_iconst (v := 1) hx hb dL_law_1648 (by decide) ?_
  refine lv_iadd hx hb dL_law_1649 ?_
  refine va_sld hx hb hX hbl hbA hM.2 (hin 1 (by decide)) dL_law_1650 ?_
  refine lv_aload_n hx hb dL_law_1651 rfl (lv_at hl 1 rfl) ?_
  refine lv_iload_n hx hb dL_law_1652 rfl (lv_at hl 0 rfl) ?_
  refine lv_iconst (v := 2) hx hb dL_law_1653 (by decide) ?_
  refine lv_iadd hx hb dL_law_1654 ?_
  refine va_sld hx hb hX hbl hbA hM.2 (hin 2 (by decide)) dL_law_1655 ?_
  refine wl_callVi (As := [.int (xs (x3 + 1).toNatClampNeg), .int (xs (x3 + 2).toNatClampNeg)]) (rest := []) hx hb hml hts hown hK hM wt_rc_X4 cl_191 hl_X4_ahead rfl ⟨qz_b rfl, qz_b rfl⟩ ⟨rfl, rfl⟩ hl.1 rfl (qz_b rfl) dL_law_1656 hcs (c_X4_ahead h2) (fun H locs hM => ?_)
  refine lv_pop hx hb dL_law_1659 rfl ?_
  refine lv_goto (tgt := 1946) hx hb dL_law_1660 (by decide) ?_
  exact kk _ _ _ _ hI hM hl
set_option maxHeartbeats 4000000 in
set_option maxRecDepth 100000 in
theorem lw_case_43 {I : Mem → Prop} {F : Nat} (hok : wl_ok_43 I F) (hI : I σ) (C : wl_C p s m meth c b L xs D tI tII B) (hcs : cells ≤ room_1.cells ∧ slots ≤ room_1.slots) (hin : ∀ j : Int32, 0 ≤ j ∧ j ≤ 5 → vp_in (x3 + j) L) (hM : wt_St D tI tII B σ s H locs) (hl : lv_has ls 4 [(3, .int x3), (0, .ref b), (1, .ref (B + 0)), (2, .ref (B + 101))]) (kk : ∀ (σ2 : Mem) (H : Heap) (locs : List Loc) (ls : Array Slot), I σ2 → wt_St D tI tII B σ2 s H locs → lv_has ls 4 [(3, .int x3), (0, .ref b), (1, .ref (B + 0)), (2, .ref (B + 101))] → W p l e room_1 s m #[Value.ref b] below meth c H locs cells slots Q (F0 m 1946 ls [])) : W p l e room_1 s m #[Value.ref b] below meth c H locs cells slots Q (F0 m 1663 ls []) := by
  obtain ⟨hx, hb, hts, hown, hml, hX, hbl, hbA, hK⟩ := C
  obtain ⟨r1, σ1, r2, σ2, h1, h2, hI⟩ := hok σ (xs (x3 + 1).toNatClampNeg) (xs (x3 + 2).toNatClampNeg) hI
  refine lv_aload_n hx hb dL_law_1663 rfl (lv_at hl 2 rfl) ?_
  refine lv_aload_n hx hb dL_law_1664 rfl (lv_at hl 1 rfl) ?_
  refine lv_iload_n hx hb dL_law_1665 rfl (lv_at hl 0 rfl) ?_
  refine lv_iconst (v := 1) hx hb dL_law_1666 (by decide) ?_
  refine lv_iadd hx hb dL_law_1667 ?_
  refine va_sld hx hb hX hbl hbA hM.2 (hin 1 (by decide)) dL_law_1668 ?_
  refine lv_aload_n hx hb dL_law_1669 rfl (lv_at hl 1 rfl) ?_
  refine lv_iload_n hx hb dL_law_1670 rfl (lv_at hl 0 rfl) ?_
  refine lv_iconst (v := 2) hx hb dL_law_1671 (by decide) ?_
  refine lv_iadd hx hb dL_law_1672 ?_
  refine va_sld hx hb hX hbl hbA hM.2 (hin 2 (by decide)) dL_law_1673 ?_
  refine wl_callVi (As := [.int (xs (x3 + 1).toNatClampNeg), .int (xs (x3 + 2).toNatClampNeg)]) (rest := []) hx hb hml hts hown hK hM wt_rc_X3 cl_192 hl_X3_bestLaw rfl ⟨qz_b rfl, qz_b rfl⟩ ⟨rfl, rfl⟩ hl.1 rfl (qz_b rfl) dL_law_1674 hcs (c_X3_bestLaw h1) (fun H locs hM => ?_)
  refine lv_pop hx hb dL_law_1677 rfl ?_
  refine lv_aload_n hx hb dL_law_1678 rfl (lv_at hl 3 rfl) ?_
  refine lv_aload_n hx hb dL_law_1679 rfl (lv_at hl 1 rfl) ?_
  refine lv_iload_n hx hb dL_law_1680 rfl (lv_at hl 0 rfl) ?_
  refine lv_iconst (v := 1) hx hb dL_law_1681 (by decide) ?_
  refine lv_iadd hx hb dL_law_1682 ?_
  refine va_sld hx hb hX hbl hbA hM.2 (hin 1 (by decide)) dL_law_1683 ?_
  refine lv_aload_n hx hb dL_law_1684 rfl (lv_at hl 1 rfl) ?_
  refine lv_iload_n hx hb dL_law_1685 rfl (lv_at hl 0 rfl) ?_
  refine lv_iconst (v := 2) hx hb dL_law_1686 (by decide) ?_
  refine lv_iadd hx hb dL_law_1687 ?_
  refine va_sld hx hb hX hbl hbA hM.2 (hin 2 (by decide)) dL_law_1688 ?_
  refine wl_callVi (As := [.int (xs (x3 + 1).toNatClampNeg), .int (xs (x3 + 2).toNatClampNeg)]) (rest := []) hx hb hml hts hown hK hM wt_rc_X4 cl_195 hl_X4_bestLaw rfl ⟨qz_b rfl, qz_b rfl⟩ ⟨rfl, rfl⟩ hl.1 rfl (qz_b rfl) dL_law_1689 hcs (c_X4_bestLaw h2) (fun H locs hM => ?_)
  refine lv_pop hx hb dL_law_1692 rfl ?_
  refine lv_goto (tgt := 1946) hx hb dL_law_1693 (by decide) ?_
  exact kk _ _ _ _ hI hM hl
set_option maxHeartbeats 4000000 in
set_option maxRecDepth 100000 in
theorem lw_case_44 {I : Mem → Prop} {F : Nat} (hok : wl_ok_44 I F) (hI : I σ) (C : wl_C p s m meth c b L xs D tI tII B) (hcs : cells ≤ room_1.cells ∧ slots ≤ room_1.slots) (hin : ∀ j : Int32, 0 ≤ j ∧ j ≤ 5 → vp_in (x3 + j) L) (hM : wt_St D tI tII B σ s H locs) (hl : lv_has ls 4 [(3, .int x3), (0, .ref b), (1, .ref (B + 0)), (2, .ref (B + 101))]) (kk : ∀ (σ2 : Mem) (H : Heap) (locs : List Loc) (ls : Array Slot), I σ2 → wt_St D tI tII B σ2 s H locs → lv_has ls 4 [(3, .int x3), (0, .ref b), (1, .ref (B + 0)), (2, .ref (B + 101))] → W p l e room_1 s m #[Value.ref b] below meth c H locs cells slots Q (F0 m 1946 ls [])) : W p l e room_1 s m #[Value.ref b] below meth c H locs cells slots Q (F0 m 1696 ls []) := by
  obtain ⟨hx, hb, hts, hown, hml, hX, hbl, hbA, hK⟩ := C
  obtain ⟨r1, σ1, r2, σ2, h1, h2, hI⟩ := hok σ (xs (x3 + 1).toNatClampNeg) (xs (x3 + 2).toNatClampNeg) (xs (x3 + 3).toNatClampNeg) hI
  refine lv_aload_n hx hb dL_law_1696 rfl (lv_at hl 2 rfl) ?_
  refine lv_aload_n hx hb dL_law_1697 rfl (lv_at hl 1 rfl) ?_
  refine lv_iload_n hx hb dL_law_1698 rfl (lv_at hl 0 rfl) ?_
  refine lv_iconst (v := 1) hx hb dL_law_1699 (by decide) ?_
  refine lv_iadd hx hb dL_law_1700 ?_
  refine va_sld hx hb hX hbl hbA hM.2 (hin 1 (by decide)) dL_law_1701 ?_
  refine lv_aload_n hx hb dL_law_1702 rfl (lv_at hl 1 rfl) ?_
  refine lv_iload_n hx hb dL_law_1703 rfl (lv_at hl 0 rfl) ?_
  refine lv_iconst (v := 2) hx hb dL_law_1704 (by decide) ?_
  refine lv_iadd hx hb dL_law_1705 ?_
  refine va_sld hx hb hX hbl hbA hM.2 (hin 2 (by decide)) dL_law_1706 ?_
  refine lv_aload_n hx hb dL_law_1707 rfl (lv_at hl 1 rfl) ?_
  refine lv_iload_n hx hb dL_law_1708 rfl (lv_at hl 0 rfl) ?_
  refine lv_iconst (v := 3) hx hb dL_law_1709 (by decide) ?_
  refine lv_iadd hx hb dL_law_1710 ?_
  refine va_sld hx hb hX hbl hbA hM.2 (hin 3 (by decide)) dL_law_1711 ?_
  refine wl_callVi (As := [.int (xs (x3 + 1).toNatClampNeg), .int (xs (x3 + 2).toNatClampNeg), .int (xs (x3 + 3).toNatClampNeg)]) (rest := []) hx hb hml hts hown hK hM wt_rc_X3 cl_196 hl_X3_newcomer rfl ⟨qz_b rfl, qz_b rfl⟩ ⟨rfl, rfl⟩ hl.1 rfl (qz_b rfl) dL_law_1712 hcs (c_X3_newcomer h1) (fun H locs hM => ?_)
  refine lv_pop hx hb dL_law_1715 rfl ?_
  refine lv_aload_n hx hb dL_law_1716 rfl (lv_at hl 3 rfl) ?_
  refine lv_aload_n hx hb dL_law_1717 rfl (lv_at hl 1 rfl) ?_
  refine lv_iload_n hx hb dL_law_1718 rfl (lv_at hl 0 rfl) ?_
  refine lv_iconst (v := 1) hx hb dL_law_1719 (by decide) ?_
  refine lv_iadd hx hb dL_law_1720 ?_
  refine va_sld hx hb hX hbl hbA hM.2 (hin 1 (by decide)) dL_law_1721 ?_
  refine lv_aload_n hx hb dL_law_1722 rfl (lv_at hl 1 rfl) ?_
  refine lv_iload_n hx hb dL_law_1723 rfl (lv_at hl 0 rfl) ?_
  refine lv_iconst (v := 2) hx hb dL_law_1724 (by decide) ?_
  refine lv_iadd hx hb dL_law_1725 ?_
  refine va_sld hx hb hX hbl hbA hM.2 (hin 2 (by decide)) dL_law_1726 ?_
  refine lv_aload_n hx hb dL_law_1727 rfl (lv_at hl 1 rfl) ?_
  refine lv_iload_n hx hb dL_law_1728 rfl (lv_at hl 0 rfl) ?_
  refine lv_iconst (v := 3) hx hb dL_law_1729 (by decide) ?_
  refine lv_iadd hx hb dL_law_1730 ?_
  refine va_sld hx hb hX hbl hbA hM.2 (hin 3 (by decide)) dL_law_1731 ?_
  refine wl_callVi (As := [.int (xs (x3 + 1).toNatClampNeg), .int (xs (x3 + 2).toNatClampNeg), .int (xs (x3 + 3).toNatClampNeg)]) (rest := []) hx hb hml hts hown hK hM wt_rc_X4 cl_199 hl_X4_newcomer rfl ⟨qz_b rfl, qz_b rfl⟩ ⟨rfl, rfl⟩ hl.1 rfl (qz_b rfl) dL_law_1732 hcs (c_X4_newcomer h2) (fun H locs hM => ?_)
  refine lv_pop hx hb dL_law_1735 rfl ?_
  refine lv_goto (tgt := 1946) hx hb dL_law_1736 (by decide) ?_
  exact kk _ _ _ _ hI hM hl
set_option maxHeartbeats 4000000 in
set_option maxRecDepth 100000 in
theorem lw_case_45 {I : Mem → Prop} {F : Nat} (hok : wl_ok_45 I F) (hI : I σ) (C : wl_C p s m meth c b L xs D tI tII B) (hcs : cells ≤ room_1.cells ∧ slots ≤ room_1.slots) (hin : ∀ j : Int32, 0 ≤ j ∧ j ≤ 5 → vp_in (x3 + j) L) (hM : wt_St D tI tII B σ s H locs) (hl : lv_has ls 4 [(3, .int x3), (0, .ref b), (1, .ref (B + 0)), (2, .ref (B + 101))]) (kk : ∀ (σ2 : Mem) (H : Heap) (locs : List Loc) (ls : Array Slot), I σ2 → wt_St D tI tII B σ2 s H locs → lv_has ls 4 [(3, .int x3), (0, .ref b), (1, .ref (B + 0)), (2, .ref (B + 101))] → W p l e room_1 s m #[Value.ref b] below meth c H locs cells slots Q (F0 m 1946 ls [])) : W p l e room_1 s m #[Value.ref b] below meth c H locs cells slots Q (F0 m 1739 ls []) := by
  obtain ⟨hx, hb, hts, hown, hml, hX, hbl, hbA, hK⟩ := C
  obtain ⟨r1, σ1, r2, σ2, h1, h2, hI⟩ := hok σ (xs (x3 + 1).toNatClampNeg) hI
  refine lv_aload_n hx hb dL_law_1739 rfl (lv_at hl 2 rfl) ?_
  refine lv_aload_n hx hb dL_law_1740 rfl (lv_at hl 1 rfl) ?_
  refine lv_iload_n hx hb dL_law_1741 rfl (lv_at hl 0 rfl) ?_
  refine lv_iconst (v := 1) hx hb dL_law_1742 (by decide) ?_
  refine lv_iadd hx hb dL_law_1743 ?_
  refine va_sld hx hb hX hbl hbA hM.2 (hin 1 (by decide)) dL_law_1744 ?_
  refine wl_callVi (As := [.int (xs (x3 + 1).toNatClampNeg)]) (rest := []) hx hb hml hts hown hK hM wt_rc_X3 cl_200 hl_X3_mostSeen rfl ⟨qz_b rfl, qz_b rfl⟩ ⟨rfl, rfl⟩ hl.1 rfl (qz_b rfl) dL_law_1745 hcs (c_X3_mostSeen h1) (fun H locs hM => ?_)
  refine lv_pop hx hb dL_law_1748 rfl ?_
  refine lv_aload_n hx hb dL_law_1749 rfl (lv_at hl 3 rfl) ?_
  refine lv_aload_n hx hb dL_law_1750 rfl (lv_at hl 1 rfl) ?_
  refine lv_iload_n hx hb dL_law_1751 rfl (lv_at hl 0 rfl) ?_
  refine lv_iconst (v := 1) hx hb dL_law_1752 (by decide) ?_
  refine lv_iadd hx hb dL_law_1753 ?_
  refine va_sld hx hb hX hbl hbA hM.2 (hin 1 (by decide)) dL_law_1754 ?_
  refine wl_callVi (As := [.int (xs (x3 + 1).toNatClampNeg)]) (rest := []) hx hb hml hts hown hK hM wt_rc_X4 cl_203 hl_X4_mostSeen rfl ⟨qz_b rfl, qz_b rfl⟩ ⟨rfl, rfl⟩ hl.1 rfl (qz_b rfl) dL_law_1755 hcs (c_X4_mostSeen h2) (fun H locs hM => ?_)
  refine lv_pop hx hb dL_law_1758 rfl ?_
  refine lv_goto (tgt := 1946) hx hb dL_law_1759 (by decide) ?_
  exact kk _ _ _ _ hI hM hl
set_option maxHeartbeats 4000000 in
set_option maxRecDepth 100000 in
theorem lw_case_46 {I : Mem → Prop} {F : Nat} (hok : wl_ok_46 I F) (hI : I σ) (C : wl_C p s m meth c b L xs D tI tII B) (hcs : cells ≤ room_1.cells ∧ slots ≤ room_1.slots) (hin : ∀ j : Int32, 0 ≤ j ∧ j ≤ 5 → vp_in (x3 + j) L) (hM : wt_St D tI tII B σ s H locs) (hl : lv_has ls 4 [(3, .int x3), (0, .ref b), (1, .ref (B + 0)), (2, .ref (B + 101))]) (kk : ∀ (σ2 : Mem) (H : Heap) (locs : List Loc) (ls : Array Slot), I σ2 → wt_St D tI tII B σ2 s H locs → lv_has ls 4 [(3, .int x3), (0, .ref b), (1, .ref (B + 0)), (2, .ref (B + 101))] → W p l e room_1 s m #[Value.ref b] below meth c H locs cells slots Q (F0 m 1946 ls [])) : W p l e room_1 s m #[Value.ref b] below meth c H locs cells slots Q (F0 m 1762 ls []) := by
  obtain ⟨hx, hb, hts, hown, hml, hX, hbl, hbA, hK⟩ := C
  obtain ⟨r1, σ1, r2, σ2, h1, h2, hI⟩ := hok σ (xs (x3 + 1).toNatClampNeg) (xs (x3 + 2).toNatClampNeg) hI
  refine lv_aload_n hx hb dL_law_1762 rfl (lv_at hl 2 rfl) ?_
  refine lv_aload_n hx hb dL_law_1763 rfl (lv_at hl 1 rfl) ?_
  refine lv_iload_n hx hb dL_law_1764 rfl (lv_at hl 0 rfl) ?_
  refine lv_iconst (v := 1) hx hb dL_law_1765 (by decide) ?_
  refine lv_iadd hx hb dL_law_1766 ?_
  refine va_sld hx hb hX hbl hbA hM.2 (hin 1 (by decide)) dL_law_1767 ?_
  refine lv_aload_n hx hb dL_law_1768 rfl (lv_at hl 1 rfl) ?_
  refine lv_iload_n hx hb dL_law_1769 rfl (lv_at hl 0 rfl) ?_
  refine lv_iconst (v := 2) hx hb dL_law_1770 (by decide) ?_
  refine lv_iadd hx hb dL_law_1771 ?_
  refine va_sld hx hb hX hbl hbA hM.2 (hin 2 (by decide)) dL_law_1772 ?_
  refine wl_callVi (As := [.int (xs (x3 + 1).toNatClampNeg), .int (xs (x3 + 2).toNatClampNeg)]) (rest := []) hx hb hml hts hown hK hM wt_rc_X3 cl_204 hl_X3_duels rfl ⟨qz_b rfl, qz_b rfl⟩ ⟨rfl, rfl⟩ hl.1 rfl (qz_b rfl) dL_law_1773 hcs (c_X3_duels h1) (fun H locs hM => ?_)
  refine lv_pop hx hb dL_law_1776 rfl ?_
  refine lv_aload_n hx hb dL_law_1777 rfl (lv_at hl 3 rfl) ?_
  refine lv_aload_n hx hb dL_law_1778 rfl (lv_at hl 1 rfl) ?_
  refine lv_iload_n hx hb dL_law_1779 rfl (lv_at hl 0 rfl) ?_
  refine lv_iconst (v := 1) hx hb dL_law_1780 (by decide) ?_
  refine lv_iadd hx hb dL_law_1781 ?_
  refine va_sld hx hb hX hbl hbA hM.2 (hin 1 (by decide)) dL_law_1782 ?_
  refine lv_aload_n hx hb dL_law_1783 rfl (lv_at hl 1 rfl) ?_
  refine lv_iload_n hx hb dL_law_1784 rfl (lv_at hl 0 rfl) ?_
  refine lv_iconst (v := 2) hx hb dL_law_1785 (by decide) ?_
  refine lv_iadd hx hb dL_law_1786 ?_
  refine va_sld hx hb hX hbl hbA hM.2 (hin 2 (by decide)) dL_law_1787 ?_
  refine wl_callVi (As := [.int (xs (x3 + 1).toNatClampNeg), .int (xs (x3 + 2).toNatClampNeg)]) (rest := []) hx hb hml hts hown hK hM wt_rc_X4 cl_207 hl_X4_duels rfl ⟨qz_b rfl, qz_b rfl⟩ ⟨rfl, rfl⟩ hl.1 rfl (qz_b rfl) dL_law_1788 hcs (c_X4_duels h2) (fun H locs hM => ?_)
  refine lv_pop hx hb dL_law_1791 rfl ?_
  refine lv_goto (tgt := 1946) hx hb dL_law_1792 (by decide) ?_
  exact kk _ _ _ _ hI hM hl
set_option maxHeartbeats 4000000 in
set_option maxRecDepth 100000 in
theorem lw_case_47 {I : Mem → Prop} {F : Nat} (hok : wl_ok_47 I F) (hI : I σ) (C : wl_C p s m meth c b L xs D tI tII B) (hcs : cells ≤ room_1.cells ∧ slots ≤ room_1.slots) (hin : ∀ j : Int32, 0 ≤ j ∧ j ≤ 5 → vp_in (x3 + j) L) (hM : wt_St D tI tII B σ s H locs) (hl : lv_has ls 4 [(3, .int x3), (0, .ref b), (1, .ref (B + 0)), (2, .ref (B + 101))]) (kk : ∀ (σ2 : Mem) (H : Heap) (locs : List Loc) (ls : Array Slot), I σ2 → wt_St D tI tII B σ2 s H locs → lv_has ls 4 [(3, .int x3), (0, .ref b), (1, .ref (B + 0)), (2, .ref (B + 101))] → W p l e room_1 s m #[Value.ref b] below meth c H locs cells slots Q (F0 m 1946 ls [])) : W p l e room_1 s m #[Value.ref b] below meth c H locs cells slots Q (F0 m 1795 ls []) := by
  obtain ⟨hx, hb, hts, hown, hml, hX, hbl, hbA, hK⟩ := C
  obtain ⟨r1, σ1, r2, σ2, h1, h2, hI⟩ := hok σ (xs (x3 + 1).toNatClampNeg) hI
  refine lv_aload_n hx hb dL_law_1795 rfl (lv_at hl 2 rfl) ?_
  refine lv_aload_n hx hb dL_law_1796 rfl (lv_at hl 1 rfl) ?_
  refine lv_iload_n hx hb dL_law_1797 rfl (lv_at hl 0 rfl) ?_
  refine lv_iconst (v := 1) hx hb dL_law_1798 (by decide) ?_
  refine lv_iadd hx hb dL_law_1799 ?_
  refine va_sld hx hb hX hbl hbA hM.2 (hin 1 (by decide)) dL_law_1800 ?_
  refine wl_callVi (As := [.int (xs (x3 + 1).toNatClampNeg)]) (rest := []) hx hb hml hts hown hK hM wt_rc_X3 cl_208 hl_X3_row rfl ⟨qz_b rfl, qz_b rfl⟩ ⟨rfl, rfl⟩ hl.1 rfl (qz_b rfl) dL_law_1801 hcs (c_X3_row h1) (fun H locs hM => ?_)
  refine lv_pop hx hb dL_law_1804 rfl ?_
  refine lv_aload_n hx hb dL_law_1805 rfl (lv_at hl 3 rfl) ?_
  refine lv_aload_n hx hb dL_law_1806 rfl (lv_at hl 1 rfl) ?_
  refine lv_iload_n hx hb dL_law_1807 rfl (lv_at hl 0 rfl) ?_
  refine lv_iconst (v := 1) hx hb dL_law_1808 (by decide) ?_
  refine lv_iadd hx hb dL_law_1809 ?_
  refine va_sld hx hb hX hbl hbA hM.2 (hin 1 (by decide)) dL_law_1810 ?_
  refine wl_callVi (As := [.int (xs (x3 + 1).toNatClampNeg)]) (rest := []) hx hb hml hts hown hK hM wt_rc_X4 cl_211 hl_X4_row rfl ⟨qz_b rfl, qz_b rfl⟩ ⟨rfl, rfl⟩ hl.1 rfl (qz_b rfl) dL_law_1811 hcs (c_X4_row h2) (fun H locs hM => ?_)
  refine lv_pop hx hb dL_law_1814 rfl ?_
  refine lv_goto (tgt := 1946) hx hb dL_law_1815 (by decide) ?_
  exact kk _ _ _ _ hI hM hl
set_option maxHeartbeats 4000000 in
set_option maxRecDepth 100000 in
theorem lw_case_48 {I : Mem → Prop} {F : Nat} (hok : wl_ok_48 I F) (hI : I σ) (C : wl_C p s m meth c b L xs D tI tII B) (hcs : cells ≤ room_1.cells ∧ slots ≤ room_1.slots) (hin : ∀ j : Int32, 0 ≤ j ∧ j ≤ 5 → vp_in (x3 + j) L) (hM : wt_St D tI tII B σ s H locs) (hl : lv_has ls 4 [(3, .int x3), (0, .ref b), (1, .ref (B + 0)), (2, .ref (B + 101))]) (kk : ∀ (σ2 : Mem) (H : Heap) (locs : List Loc) (ls : Array Slot), I σ2 → wt_St D tI tII B σ2 s H locs → lv_has ls 4 [(3, .int x3), (0, .ref b), (1, .ref (B + 0)), (2, .ref (B + 101))] → W p l e room_1 s m #[Value.ref b] below meth c H locs cells slots Q (F0 m 1946 ls [])) : W p l e room_1 s m #[Value.ref b] below meth c H locs cells slots Q (F0 m 1818 ls []) := by
  obtain ⟨hx, hb, hts, hown, hml, hX, hbl, hbA, hK⟩ := C
  obtain ⟨r1, σ1, r2, σ2, h1, h2, hI⟩ := hok σ (xs (x3 + 1).toNatClampNeg) hI
  refine lv_aload_n hx hb dL_law_1818 rfl (lv_at hl 2 rfl) ?_
  refine lv_aload_n hx hb dL_law_1819 rfl (lv_at hl 1 rfl) ?_
  refine lv_iload_n hx hb dL_law_1820 rfl (lv_at hl 0 rfl) ?_
  refine lv_iconst (v := 1) hx hb dL_law_1821 (by decide) ?_
  refine lv_iadd hx hb dL_law_1822 ?_
  refine va_sld hx hb hX hbl hbA hM.2 (hin 1 (by decide)) dL_law_1823 ?_
  refine wl_callVi (As := [.int (xs (x3 + 1).toNatClampNeg)]) (rest := []) hx hb hml hts hown hK hM wt_rc_X3 cl_212 hl_X3_judge rfl ⟨qz_b rfl, qz_b rfl⟩ ⟨rfl, rfl⟩ hl.1 rfl (qz_b rfl) dL_law_1824 hcs (c_X3_judge h1) (fun H locs hM => ?_)
  refine lv_pop hx hb dL_law_1827 rfl ?_
  refine lv_aload_n hx hb dL_law_1828 rfl (lv_at hl 3 rfl) ?_
  refine lv_aload_n hx hb dL_law_1829 rfl (lv_at hl 1 rfl) ?_
  refine lv_iload_n hx hb dL_law_1830 rfl (lv_at hl 0 rfl) ?_
  refine lv_iconst (v := 1) hx hb dL_law_1831 (by decide) ?_
  refine lv_iadd hx hb dL_law_1832 ?_
  refine va_sld hx hb hX hbl hbA hM.2 (hin 1 (by decide)) dL_law_1833 ?_
  refine wl_callVi (As := [.int (xs (x3 + 1).toNatClampNeg)]) (rest := []) hx hb hml hts hown hK hM wt_rc_X4 cl_215 hl_X4_judge rfl ⟨qz_b rfl, qz_b rfl⟩ ⟨rfl, rfl⟩ hl.1 rfl (qz_b rfl) dL_law_1834 hcs (c_X4_judge h2) (fun H locs hM => ?_)
  refine lv_pop hx hb dL_law_1837 rfl ?_
  refine lv_goto (tgt := 1946) hx hb dL_law_1838 (by decide) ?_
  exact kk _ _ _ _ hI hM hl
set_option maxHeartbeats 4000000 in
set_option maxRecDepth 100000 in
theorem lw_case_49 {I : Mem → Prop} {F : Nat} (hok : wl_ok_49 I F) (hI : I σ) (C : wl_C p s m meth c b L xs D tI tII B) (hcs : cells ≤ room_1.cells ∧ slots ≤ room_1.slots) (hin : ∀ j : Int32, 0 ≤ j ∧ j ≤ 5 → vp_in (x3 + j) L) (hM : wt_St D tI tII B σ s H locs) (hl : lv_has ls 4 [(3, .int x3), (0, .ref b), (1, .ref (B + 0)), (2, .ref (B + 101))]) (kk : ∀ (σ2 : Mem) (H : Heap) (locs : List Loc) (ls : Array Slot), I σ2 → wt_St D tI tII B σ2 s H locs → lv_has ls 4 [(3, .int x3), (0, .ref b), (1, .ref (B + 0)), (2, .ref (B + 101))] → W p l e room_1 s m #[Value.ref b] below meth c H locs cells slots Q (F0 m 1946 ls [])) : W p l e room_1 s m #[Value.ref b] below meth c H locs cells slots Q (F0 m 1841 ls []) := by
  obtain ⟨hx, hb, hts, hown, hml, hX, hbl, hbA, hK⟩ := C
  obtain ⟨r1, σ1, r2, σ2, h1, h2, hI⟩ := hok σ hI
  refine lv_aload_n hx hb dL_law_1841 rfl (lv_at hl 2 rfl) ?_
  refine wl_callVi (As := []) (rest := []) hx hb hml hts hown hK hM wt_rc_X3 cl_216 hl_X3_clear rfl ⟨qz_b rfl, qz_b rfl⟩ ⟨rfl, rfl⟩ hl.1 rfl (qz_b rfl) dL_law_1842 hcs (c_X3_clear h1) (fun H locs hM => ?_)
  refine lv_pop hx hb dL_law_1845 rfl ?_
  refine lv_aload_n hx hb dL_law_1846 rfl (lv_at hl 3 rfl) ?_
  refine wl_callVi (As := []) (rest := []) hx hb hml hts hown hK hM wt_rc_X4 cl_219 hl_X4_clear rfl ⟨qz_b rfl, qz_b rfl⟩ ⟨rfl, rfl⟩ hl.1 rfl (qz_b rfl) dL_law_1847 hcs (c_X4_clear h2) (fun H locs hM => ?_)
  refine lv_pop hx hb dL_law_1850 rfl ?_
  refine lv_goto (tgt := 1946) hx hb dL_law_1851 (by decide) ?_
  exact kk _ _ _ _ hI hM hl
set_option maxHeartbeats 4000000 in
set_option maxRecDepth 100000 in
theorem lw_case_50 {I : Mem → Prop} {F : Nat} (hok : wl_ok_50 I F) (hI : I σ) (C : wl_C p s m meth c b L xs D tI tII B) (hcs : cells ≤ room_1.cells ∧ slots ≤ room_1.slots) (hin : ∀ j : Int32, 0 ≤ j ∧ j ≤ 5 → vp_in (x3 + j) L) (hM : wt_St D tI tII B σ s H locs) (hl : lv_has ls 4 [(3, .int x3), (0, .ref b), (1, .ref (B + 0)), (2, .ref (B + 101))]) (kk : ∀ (σ2 : Mem) (H : Heap) (locs : List Loc) (ls : Array Slot), I σ2 → wt_St D tI tII B σ2 s H locs → lv_has ls 4 [(3, .int x3), (0, .ref b), (1, .ref (B + 0)), (2, .ref (B + 101))] → W p l e room_1 s m #[Value.ref b] below meth c H locs cells slots Q (F0 m 1946 ls [])) : W p l e room_1 s m #[Value.ref b] below meth c H locs cells slots Q (F0 m 1854 ls []) := by
  obtain ⟨hx, hb, hts, hown, hml, hX, hbl, hbA, hK⟩ := C
  obtain ⟨r1, σ1, r2, σ2, h1, h2, hI⟩ := hok σ (xs (x3 + 1).toNatClampNeg) (xs (x3 + 2).toNatClampNeg) (xs (x3 + 3).toNatClampNeg) hI
  refine lv_aload_n hx hb dL_law_1854 rfl (lv_at hl 2 rfl) ?_
  refine lv_aload_n hx hb dL_law_1855 rfl (lv_at hl 1 rfl) ?_
  refine lv_iload_n hx hb dL_law_1856 rfl (lv_at hl 0 rfl) ?_
  refine lv_iconst (v := 1) hx hb dL_law_1857 (by decide) ?_
  refine lv_iadd hx hb dL_law_1858 ?_
  refine va_sld hx hb hX hbl hbA hM.2 (hin 1 (by decide)) dL_law_1859 ?_
  refine lv_aload_n hx hb dL_law_1860 rfl (lv_at hl 1 rfl) ?_
  refine lv_iload_n hx hb dL_law_1861 rfl (lv_at hl 0 rfl) ?_
  refine lv_iconst (v := 2) hx hb dL_law_1862 (by decide) ?_
  refine lv_iadd hx hb dL_law_1863 ?_
  refine va_sld hx hb hX hbl hbA hM.2 (hin 2 (by decide)) dL_law_1864 ?_
  refine lv_aload_n hx hb dL_law_1865 rfl (lv_at hl 1 rfl) ?_
  refine lv_iload_n hx hb dL_law_1866 rfl (lv_at hl 0 rfl) ?_
  refine lv_iconst (v := 3) hx hb dL_law_1867 (by decide) ?_
  refine lv_iadd hx hb dL_law_1868 ?_
  refine va_sld hx hb hX hbl hbA hM.2 (hin 3 (by decide)) dL_law_1869 ?_
  refine wl_callVi (As := [.int (xs (x3 + 1).toNatClampNeg), .int (xs (x3 + 2).toNatClampNeg), .int (xs (x3 + 3).toNatClampNeg)]) (rest := []) hx hb hml hts hown hK hM wt_rc_X3 cl_220 hl_X3_lots rfl ⟨qz_b rfl, qz_b rfl⟩ ⟨rfl, rfl⟩ hl.1 rfl (qz_b rfl) dL_law_1870 hcs (c_X3_lots h1) (fun H locs hM => ?_)
  refine lv_pop hx hb dL_law_1873 rfl ?_
  refine lv_aload_n hx hb dL_law_1874 rfl (lv_at hl 3 rfl) ?_
  refine lv_aload_n hx hb dL_law_1875 rfl (lv_at hl 1 rfl) ?_
  refine lv_iload_n hx hb dL_law_1876 rfl (lv_at hl 0 rfl) ?_
  refine lv_iconst (v := 1) hx hb dL_law_1877 (by decide) ?_
  refine lv_iadd hx hb dL_law_1878 ?_
  refine va_sld hx hb hX hbl hbA hM.2 (hin 1 (by decide)) dL_law_1879 ?_
  refine lv_aload_n hx hb dL_law_1880 rfl (lv_at hl 1 rfl) ?_
  refine lv_iload_n hx hb dL_law_1881 rfl (lv_at hl 0 rfl) ?_
  refine lv_iconst (v := 2) hx hb dL_law_1882 (by decide) ?_
  refine lv_iadd hx hb dL_law_1883 ?_
  refine va_sld hx hb hX hbl hbA hM.2 (hin 2 (by decide)) dL_law_1884 ?_
  refine lv_aload_n hx hb dL_law_1885 rfl (lv_at hl 1 rfl) ?_
  refine lv_iload_n hx hb dL_law_1886 rfl (lv_at hl 0 rfl) ?_
  refine lv_iconst (v := 3) hx hb dL_law_1887 (by decide) ?_
  refine lv_iadd hx hb dL_law_1888 ?_
  refine va_sld hx hb hX hbl hbA hM.2 (hin 3 (by decide)) dL_law_1889 ?_
  refine wl_callVi (As := [.int (xs (x3 + 1).toNatClampNeg), .int (xs (x3 + 2).toNatClampNeg), .int (xs (x3 + 3).toNatClampNeg)]) (rest := []) hx hb hml hts hown hK hM wt_rc_X4 cl_223 hl_X4_lots rfl ⟨qz_b rfl, qz_b rfl⟩ ⟨rfl, rfl⟩ hl.1 rfl (qz_b rfl) dL_law_1890 hcs (c_X4_lots h2) (fun H locs hM => ?_)
  refine lv_pop hx hb dL_law_1893 rfl ?_
  refine lv_goto (tgt := 1946) hx hb dL_law_1894 (by decide) ?_
  exact kk _ _ _ _ hI hM hl
set_option maxHeartbeats 4000000 in
set_option maxRecDepth 100000 in
theorem lw_case_51 {I : Mem → Prop} {F : Nat} (hok : wl_ok_51 I F) (hI : I σ) (C : wl_C p s m meth c b L xs D tI tII B) (hcs : cells ≤ room_1.cells ∧ slots ≤ room_1.slots) (hin : ∀ j : Int32, 0 ≤ j ∧ j ≤ 5 → vp_in (x3 + j) L) (hM : wt_St D tI tII B σ s H locs) (hl : lv_has ls 4 [(3, .int x3), (0, .ref b), (1, .ref (B + 0)), (2, .ref (B + 101))]) (kk : ∀ (σ2 : Mem) (H : Heap) (locs : List Loc) (ls : Array Slot), I σ2 → wt_St D tI tII B σ2 s H locs → lv_has ls 4 [(3, .int x3), (0, .ref b), (1, .ref (B + 0)), (2, .ref (B + 101))] → W p l e room_1 s m #[Value.ref b] below meth c H locs cells slots Q (F0 m 1946 ls [])) : W p l e room_1 s m #[Value.ref b] below meth c H locs cells slots Q (F0 m 1897 ls []) := by
  obtain ⟨hx, hb, hts, hown, hml, hX, hbl, hbA, hK⟩ := C
  obtain ⟨r1, σ1, r2, σ2, h1, h2, hI⟩ := hok σ hI
  refine lv_aload_n hx hb dL_law_1897 rfl (lv_at hl 2 rfl) ?_
  refine wl_callVi (As := []) (rest := []) hx hb hml hts hown hK hM wt_rc_X3 cl_224 hl_X3_image rfl ⟨qz_b rfl, qz_b rfl⟩ ⟨rfl, rfl⟩ hl.1 rfl (qz_b rfl) dL_law_1898 hcs (c_X3_image h1) (fun H locs hM => ?_)
  refine lv_pop hx hb dL_law_1901 rfl ?_
  refine lv_aload_n hx hb dL_law_1902 rfl (lv_at hl 3 rfl) ?_
  refine wl_callVi (As := []) (rest := []) hx hb hml hts hown hK hM wt_rc_X4 cl_227 hl_X4_image rfl ⟨qz_b rfl, qz_b rfl⟩ ⟨rfl, rfl⟩ hl.1 rfl (qz_b rfl) dL_law_1903 hcs (c_X4_image h2) (fun H locs hM => ?_)
  refine lv_pop hx hb dL_law_1906 rfl ?_
  refine lv_goto (tgt := 1946) hx hb dL_law_1907 (by decide) ?_
  exact kk _ _ _ _ hI hM hl
set_option maxHeartbeats 4000000 in
set_option maxRecDepth 100000 in
theorem lw_case_52 {I : Mem → Prop} {F : Nat} (hok : wl_ok_52 I F) (hI : I σ) (C : wl_C p s m meth c b L xs D tI tII B) (hcs : cells ≤ room_1.cells ∧ slots ≤ room_1.slots) (hin : ∀ j : Int32, 0 ≤ j ∧ j ≤ 5 → vp_in (x3 + j) L) (hM : wt_St D tI tII B σ s H locs) (hl : lv_has ls 4 [(3, .int x3), (0, .ref b), (1, .ref (B + 0)), (2, .ref (B + 101))]) (kk : ∀ (σ2 : Mem) (H : Heap) (locs : List Loc) (ls : Array Slot), I σ2 → wt_St D tI tII B σ2 s H locs → lv_has ls 4 [(3, .int x3), (0, .ref b), (1, .ref (B + 0)), (2, .ref (B + 101))] → W p l e room_1 s m #[Value.ref b] below meth c H locs cells slots Q (F0 m 1946 ls [])) : W p l e room_1 s m #[Value.ref b] below meth c H locs cells slots Q (F0 m 1910 ls []) := by
  obtain ⟨hx, hb, hts, hown, hml, hX, hbl, hbA, hK⟩ := C
  obtain ⟨r1, σ1, r2, σ2, h1, h2, hI⟩ := hok σ hI
  refine lv_aload_n hx hb dL_law_1910 rfl (lv_at hl 2 rfl) ?_
  refine wl_callVi (As := []) (rest := []) hx hb hml hts hown hK hM wt_rc_X3 cl_228 hl_X3_restore rfl ⟨qz_b rfl, qz_b rfl⟩ ⟨rfl, rfl⟩ hl.1 rfl (qz_b rfl) dL_law_1911 hcs (c_X3_restore h1) (fun H locs hM => ?_)
  refine lv_pop hx hb dL_law_1914 rfl ?_
  refine lv_aload_n hx hb dL_law_1915 rfl (lv_at hl 3 rfl) ?_
  refine wl_callVi (As := []) (rest := []) hx hb hml hts hown hK hM wt_rc_X4 cl_231 hl_X4_restore rfl ⟨qz_b rfl, qz_b rfl⟩ ⟨rfl, rfl⟩ hl.1 rfl (qz_b rfl) dL_law_1916 hcs (c_X4_restore h2) (fun H locs hM => ?_)
  refine lv_pop hx hb dL_law_1919 rfl ?_
  refine lv_goto (tgt := 1946) hx hb dL_law_1920 (by decide) ?_
  exact kk _ _ _ _ hI hM hl
set_option maxHeartbeats 4000000 in
set_option maxRecDepth 100000 in
theorem lw_case_53 {I : Mem → Prop} {F : Nat} (hok : wl_ok_53 I F) (hI : I σ) (C : wl_C p s m meth c b L xs D tI tII B) (hcs : cells ≤ room_1.cells ∧ slots ≤ room_1.slots) (hin : ∀ j : Int32, 0 ≤ j ∧ j ≤ 5 → vp_in (x3 + j) L) (hM : wt_St D tI tII B σ s H locs) (hl : lv_has ls 4 [(3, .int x3), (0, .ref b), (1, .ref (B + 0)), (2, .ref (B + 101))]) (kk : ∀ (σ2 : Mem) (H : Heap) (locs : List Loc) (ls : Array Slot), I σ2 → wt_St D tI tII B σ2 s H locs → lv_has ls 4 [(3, .int x3), (0, .ref b), (1, .ref (B + 0)), (2, .ref (B + 101))] → W p l e room_1 s m #[Value.ref b] below meth c H locs cells slots Q (F0 m 1946 ls [])) : W p l e room_1 s m #[Value.ref b] below meth c H locs cells slots Q (F0 m 1923 ls []) := by
  obtain ⟨hx, hb, hts, hown, hml, hX, hbl, hbA, hK⟩ := C
  obtain ⟨r1, σ1, r2, σ2, h1, h2, hI⟩ := hok σ (xs (x3 + 1).toNatClampNeg) hI
  refine lv_aload_n hx hb dL_law_1923 rfl (lv_at hl 2 rfl) ?_
  refine lv_aload_n hx hb dL_law_1924 rfl (lv_at hl 1 rfl) ?_
  refine lv_iload_n hx hb dL_law_1925 rfl (lv_at hl 0 rfl) ?_
  refine lv_iconst (v := 1) hx hb dL_law_1926 (by decide) ?_
  refine lv_iadd hx hb dL_law_1927 ?_
  refine va_sld hx hb hX hbl hbA hM.2 (hin 1 (by decide)) dL_law_1928 ?_
  refine wl_callVi (As := [.int (xs (x3 + 1).toNatClampNeg)]) (rest := []) hx hb hml hts hown hK hM wt_rc_X3 cl_232 hl_X3_count rfl ⟨qz_b rfl, qz_b rfl⟩ ⟨rfl, rfl⟩ hl.1 rfl (qz_b rfl) dL_law_1929 hcs (c_X3_count h1) (fun H locs hM => ?_)
  refine lv_pop hx hb dL_law_1932 rfl ?_
  refine lv_aload_n hx hb dL_law_1933 rfl (lv_at hl 3 rfl) ?_
  refine lv_aload_n hx hb dL_law_1934 rfl (lv_at hl 1 rfl) ?_
  refine lv_iload_n hx hb dL_law_1935 rfl (lv_at hl 0 rfl) ?_
  refine lv_iconst (v := 1) hx hb dL_law_1936 (by decide) ?_
  refine lv_iadd hx hb dL_law_1937 ?_
  refine va_sld hx hb hX hbl hbA hM.2 (hin 1 (by decide)) dL_law_1938 ?_
  refine wl_callVi (As := [.int (xs (x3 + 1).toNatClampNeg)]) (rest := []) hx hb hml hts hown hK hM wt_rc_X4 cl_235 hl_X4_count rfl ⟨qz_b rfl, qz_b rfl⟩ ⟨rfl, rfl⟩ hl.1 rfl (qz_b rfl) dL_law_1939 hcs (c_X4_count h2) (fun H locs hM => ?_)
  refine lv_pop hx hb dL_law_1942 rfl ?_
  refine lv_goto (tgt := 1946) hx hb dL_law_1943 (by decide) ?_
  exact kk _ _ _ _ hI hM hl
end LWC
