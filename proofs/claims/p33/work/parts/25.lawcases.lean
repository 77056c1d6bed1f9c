section LWC
variable {p : Program} {l : Launch} {e : Env} {s : State} {m : MethodId} {below : List Frame} {meth : Method} {c : Code} {D : va_G} {tI tII : ClassId} {b L : Nat} {xs : Nat → Int32} {B cells slots : Nat} {H : Heap} {locs : List Loc} {Q : State → Prop} {ls : Array Slot} {x3 : Int32} {σ : Mem}
set_option maxHeartbeats 4000000 in
set_option maxRecDepth 100000 in
theorem lw_case_27 {I : Mem → Prop} {F : Nat} (hok : wl_ok_27 I F) (hI : I σ) (C : wl_C p s m meth c b L xs D tI tII B) (hcs : cells ≤ room_1.cells ∧ slots ≤ room_1.slots) (hin : ∀ j : Int32, 0 ≤ j ∧ j ≤ 5 → vp_in (x3 + j) L) (hM : wt_St D tI tII B σ s H locs) (hl : lv_has ls 4 [(3, .int x3), (0, .ref b), (1, .ref (B + 0)), (2, .ref (B + 101))]) (kk : ∀ (σ2 : Mem) (H : Heap) (locs : List Loc) (ls : Array Slot), I σ2 → wt_St D tI tII B σ2 s H locs → lv_has ls 4 [(3, .int x3), (0, .ref b), (1, .ref (B + 0)), (2, .ref (B + 101))] → W p l e room_1 s m #[Value.ref b] below meth c H locs cells slots Q (F0 m 1947 ls [])) : W p l e room_1 s m #[Value.ref b] below meth c H locs cells slots Q (F0 m 1115 ls []) := by
  obtain ⟨hx, hb, hts, hown, hml, hX, hbl, hbA, hK⟩ := C
  obtain ⟨r1, σ1, r2, σ2, h1, h2, hI⟩ := hok σ (xs (x3 + 1).toNatClampNeg) (xs (x3 + 2).toNatClampNeg) (xs (x3 + 3).toNatClampNeg) hI
  refine lv_aload_n hx hb dL_law_1115 rfl (lv_at hl 2 rfl) ?_
  refine lv_aload_n hx hb dL_law_1116 rfl (lv_at hl 1 rfl) ?_
  refine lv_iload_n hx hb dL_law_1117 rfl (lv_at hl 0 rfl) ?_
  refine lv_iconst (v := 1) hx hb dL_law_1118 (by decide) ?_
  refine lv_iadd hx hb dL_law_1119 ?_
  refine va_sld hx hb hX hbl hbA hM.2 (hin 1 (by decide)) dL_law_1120 ?_
  refine lv_aload_n hx hb dL_law_1121 rfl (lv_at hl 1 rfl) ?_
  refine lv_iload_n hx hb dL_law_1122 rfl (lv_at hl 0 rfl) ?_
  refine lv_iconst (v := 2) hx hb dL_law_1123 (by decide) ?_
  refine lv_iadd hx hb dL_law_1124 ?_
  refine va_sld hx hb hX hbl hbA hM.2 (hin 2 (by decide)) dL_law_1125 ?_
  refine lv_aload_n hx hb dL_law_1126 rfl (lv_at hl 1 rfl) ?_
  refine lv_iload_n hx hb dL_law_1127 rfl (lv_at hl 0 rfl) ?_
  refine lv_iconst (v := 3) hx hb dL_law_1128 (by decide) ?_
  refine lv_iadd hx hb dL_law_1129 ?_
  refine va_sld hx hb hX hbl hbA hM.2 (hin 3 (by decide)) dL_law_1130 ?_
  refine wl_callVl (As := [.int (xs (x3 + 1).toNatClampNeg), .int (xs (x3 + 2).toNatClampNeg), .int (xs (x3 + 3).toNatClampNeg)]) (rest := []) hx hb hml hts hown hK hM wt_rc_X3 cl_126 hl_X3_share rfl ⟨qz_b rfl, qz_b rfl⟩ ⟨rfl, rfl⟩ hl.1 rfl (qz_b rfl) dL_law_1131 hcs (c_X3_share h1) (fun H locs hM => ?_)
  refine lv_pop2_2 hx hb dL_law_1134 rfl ?_
  refine lv_aload_n hx hb dL_law_1135 rfl (lv_at hl 3 rfl) ?_
  refine lv_aload_n hx hb dL_law_1136 rfl (lv_at hl 1 rfl) ?_
  refine lv_iload_n hx hb dL_law_1137 rfl (lv_at hl 0 rfl) ?_
  refine lv_iconst (v := 1) hx hb dL_law_1138 (by decide) ?_
  refine lv_iadd hx hb dL_law_1139 ?_
  refine va_sld hx hb hX hbl hbA hM.2 (hin 1 (by decide)) dL_law_1140 ?_
  refine lv_aload_n hx hb dL_law_1141 rfl (lv_at hl 1 rfl) ?_
  refine lv_iload_n hx hb dL_law_1142 rfl (lv_at hl 0 rfl) ?_
  refine lv_iconst (v := 2) hx hb dL_law_1143 (by decide) ?_
  refine lv_iadd hx hb dL_law_1144 ?_
  refine va_sld hx hb hX hbl hbA hM.2 (hin 2 (by decide)) dL_law_1145 ?_
  refine lv_aload_n hx hb dL_law_1146 rfl (lv_at hl 1 rfl) ?_
  refine lv_iload_n hx hb dL_law_1147 rfl (lv_at hl 0 rfl) ?_
  refine lv_iconst (v := 3) hx hb dL_law_1148 (by decide) ?_
  refine lv_iadd hx hb dL_law_1149 ?_
  refine va_sld hx hb hX hbl hbA hM.2 (hin 3 (by decide)) dL_law_1150 ?_
  refine wl_callVl (As := [.int (xs (x3 + 1).toNatClampNeg), .int (xs (x3 + 2).toNatClampNeg), .int (xs (x3 + 3).toNatClampNeg)]) (rest := []) hx hb hml hts hown hK hM wt_rc_X4 cl_130 hl_X4_share rfl ⟨qz_b rfl, qz_b rfl⟩ ⟨rfl, rfl⟩ hl.1 rfl (qz_b rfl) dL_law_1151 hcs (c_X4_share h2) (fun H locs hM => ?_)
  refine lv_pop2_2 hx hb dL_law_1154 rfl ?_
  refine lv_goto (tgt := 1947) hx hb dL_law_1155 (by decide) ?_
  exact kk _ _ _ _ hI hM hl
set_option maxHeartbeats 4000000 in
set_option maxRecDepth 100000 in
theorem lw_case_28 {I : Mem → Prop} {F : Nat} (hok : wl_ok_28 I F) (hI : I σ) (C : wl_C p s m meth c b L xs D tI tII B) (hcs : cells ≤ room_1.cells ∧ slots ≤ room_1.slots) (hin : ∀ j : Int32, 0 ≤ j ∧ j ≤ 5 → vp_in (x3 + j) L) (hM : wt_St D tI tII B σ s H locs) (hl : lv_has ls 4 [(3, .int x3), (0, .ref b), (1, .ref (B + 0)), (2, .ref (B + 101))]) (kk : ∀ (σ2 : Mem) (H : Heap) (locs : List Loc) (ls : Array Slot), I σ2 → wt_St D tI tII B σ2 s H locs → lv_has ls 4 [(3, .int x3), (0, .ref b), (1, .ref (B + 0)), (2, .ref (B + 101))] → W p l e room_1 s m #[Value.ref b] below meth c H locs cells slots Q (F0 m 1947 ls [])) : W p l e room_1 s m #[Value.ref b] below meth c H locs cells slots Q (F0 m 1158 ls []) := by
  obtain ⟨hx, hb, hts, hown, hml, hX, hbl, hbA, hK⟩ := C
  obtain ⟨r1, σ1, r2, σ2, h1, h2, hI⟩ := hok σ (xs (x3 + 1).toNatClampNeg) (xs (x3 + 2).toNatClampNeg) (xs (x3 + 3).toNatClampNeg) (xs (x3 + 4).toNatClampNeg) hI
  refine lv_aload_n hx hb dL_law_1158 rfl (lv_at hl 2 rfl) ?_
  refine lv_aload_n hx hb dL_law_1159 rfl (lv_at hl 1 rfl) ?_
  refine lv_iload_n hx hb dL_law_1160 rfl (lv_at hl 0 rfl) ?_
  refine lv_iconst (v := 1) hx hb dL_law_1161 (by decide) ?_
  refine lv_iadd hx hb dL_law_1162 ?_
  refine va_sld hx hb hX hbl hbA hM.2 (hin 1 (by decide)) dL_law_1163 ?_
  refine lv_aload_n hx hb dL_law_1164 rfl (lv_at hl 1 rfl) ?_
  refine lv_iload_n hx hb dL_law_1165 rfl (lv_at hl 0 rfl) ?_
  refine lv_iconst (v := 2) hx hb dL_law_1166 (by decide) ?_
  refine lv_iadd hx hb dL_law_1167 ?_
  refine va_sld hx hb hX hbl hbA hM.2 (hin 2 (by decide)) dL_law_1168 ?_
  refine lv_aload_n hx hb dL_law_1169 rfl (lv_at hl 1 rfl) ?_
  refine lv_iload_n hx hb dL_law_1170 rfl (lv_at hl 0 rfl) ?_
  refine lv_iconst (v := 3) hx hb dL_law_1171 (by decide) ?_
  refine lv_iadd hx hb dL_law_1172 ?_
  refine va_sld hx hb hX hbl hbA hM.2 (hin 3 (by decide)) dL_law_1173 ?_
  refine lv_aload_n hx hb dL_law_1174 rfl (lv_at hl 1 rfl) ?_
  refine lv_iload_n hx hb dL_law_1175 rfl (lv_at hl 0 rfl) ?_
  refine lv_iconst (v := 4) hx hb dL_law_1176 (by decide) ?_
  refine lv_iadd hx hb dL_law_1177 ?_
  refine va_sld hx hb hX hbl hbA hM.2 (hin 4 (by decide)) dL_law_1178 ?_
  refine wl_callVi (As := [.int (xs (x3 + 1).toNatClampNeg), .int (xs (x3 + 2).toNatClampNeg), .int (xs (x3 + 3).toNatClampNeg), .int (xs (x3 + 4).toNatClampNeg)]) (rest := []) hx hb hml hts hown hK hM wt_rc_X3 cl_131 hl_X3_two rfl ⟨qz_b rfl, qz_b rfl⟩ ⟨rfl, rfl⟩ hl.1 rfl (qz_b rfl) dL_law_1179 hcs (c_X3_two h1) (fun H locs hM => ?_)
  refine lv_pop hx hb dL_law_1182 rfl ?_
  refine lv_aload_n hx hb dL_law_1183 rfl (lv_at hl 3 rfl) ?_
  refine lv_aload_n hx hb dL_law_1184 rfl (lv_at hl 1 rfl) ?_
  refine lv_iload_n hx hb dL_law_1185 rfl (lv_at hl 0 rfl) ?_
  refine lv_iconst (v := 1) hx hb dL_law_1186 (by decide) ?_
  refine lv_iadd hx hb dL_law_1187 ?_
  refine va_sld hx hb hX hbl hbA hM.2 (hin 1 (by decide)) dL_law_1188 ?_
  refine lv_aload_n hx hb dL_law_1189 rfl (lv_at hl 1 rfl) ?_
  refine lv_iload_n hx hb dL_law_1190 rfl (lv_at hl 0 rfl) ?_
  refine lv_iconst (v := 2) hx hb dL_law_1191 (by decide) ?_
  refine lv_iadd hx hb dL_law_1192 ?_
  refine va_sld hx hb hX hbl hbA hM.2 (hin 2 (by decide)) dL_law_1193 ?_
  refine lv_aload_n hx hb dL_law_1194 rfl (lv_at hl 1 rfl) ?_
  refine lv_iload_n hx hb dL_law_1195 rfl (lv_at hl 0 rfl) ?_
  refine lv_iconst (v := 3) hx hb dL_law_1196 (by decide) ?_
  refine lv_iadd hx hb dL_law_1197 ?_
  refine va_sld hx hb hX hbl hbA hM.2 (hin 3 (by decide)) dL_law_1198 ?_
  refine lv_aload_n hx hb dL_law_1199 rfl (lv_at hl 1 rfl) ?_
  refine lv_iload_n hx hb dL_law_1200 rfl (lv_at hl 0 rfl) ?_
  refine lv_iconst (v := 4) hx hb dL_law_1201 (by decide) ?_
  refine lv_iadd hx hb dL_law_1202 ?_
  refine va_sld hx hb hX hbl hbA hM.2 (hin 4 (by decide)) dL_law_1203 ?_
  refine wl_callVi (As := [.int (xs (x3 + 1).toNatClampNeg), .int (xs (x3 + 2).toNatClampNeg), .int (xs (x3 + 3).toNatClampNeg), .int (xs (x3 + 4).toNatClampNeg)]) (rest := []) hx hb hml hts hown hK hM wt_rc_X4 cl_134 hl_X4_two rfl ⟨qz_b rfl, qz_b rfl⟩ ⟨rfl, rfl⟩ hl.1 rfl (qz_b rfl) dL_law_1204 hcs (c_X4_two h2) (fun H locs hM => ?_)
  refine lv_pop hx hb dL_law_1207 rfl ?_
  refine lv_goto (tgt := 1947) hx hb dL_law_1208 (by decide) ?_
  exact kk _ _ _ _ hI hM hl
set_option maxHeartbeats 4000000 in
set_option maxRecDepth 100000 in
theorem lw_case_29 {I : Mem → Prop} {F : Nat} (hok : wl_ok_29 I F) (hI : I σ) (C : wl_C p s m meth c b L xs D tI tII B) (hcs : cells ≤ room_1.cells ∧ slots ≤ room_1.slots) (hin : ∀ j : Int32, 0 ≤ j ∧ j ≤ 5 → vp_in (x3 + j) L) (hM : wt_St D tI tII B σ s H locs) (hl : lv_has ls 4 [(3, .int x3), (0, .ref b), (1, .ref (B + 0)), (2, .ref (B + 101))]) (kk : ∀ (σ2 : Mem) (H : Heap) (locs : List Loc) (ls : Array Slot), I σ2 → wt_St D tI tII B σ2 s H locs → lv_has ls 4 [(3, .int x3), (0, .ref b), (1, .ref (B + 0)), (2, .ref (B + 101))] → W p l e room_1 s m #[Value.ref b] below meth c H locs cells slots Q (F0 m 1947 ls [])) : W p l e room_1 s m #[Value.ref b] below meth c H locs cells slots Q (F0 m 1211 ls []) := by
  obtain ⟨hx, hb, hts, hown, hml, hX, hbl, hbA, hK⟩ := C
  obtain ⟨r1, σ1, r2, σ2, h1, h2, hI⟩ := hok σ hI
  refine lv_aload_n hx hb dL_law_1211 rfl (lv_at hl 2 rfl) ?_
  refine wl_callVi (As := []) (rest := []) hx hb hml hts hown hK hM wt_rc_X3 cl_135 hl_X3_whichLaw rfl ⟨qz_b rfl, qz_b rfl⟩ ⟨rfl, rfl⟩ hl.1 rfl (qz_b rfl) dL_law_1212 hcs (c_X3_whichLaw h1) (fun H locs hM => ?_)
  refine lv_pop hx hb dL_law_1215 rfl ?_
  refine lv_aload_n hx hb dL_law_1216 rfl (lv_at hl 3 rfl) ?_
  refine wl_callVi (As := []) (rest := []) hx hb hml hts hown hK hM wt_rc_X4 cl_138 hl_X4_whichLaw rfl ⟨qz_b rfl, qz_b rfl⟩ ⟨rfl, rfl⟩ hl.1 rfl (qz_b rfl) dL_law_1217 hcs (c_X4_whichLaw h2) (fun H locs hM => ?_)
  refine lv_pop hx hb dL_law_1220 rfl ?_
  refine lv_goto (tgt := 1947) hx hb dL_law_1221 (by decide) ?_
  exact kk _ _ _ _ hI hM hl
set_option maxHeartbeats 4000000 in
set_option maxRecDepth 100000 in
theorem lw_case_30 {I : Mem → Prop} {F : Nat} (hok : wl_ok_30 I F) (hI : I σ) (C : wl_C p s m meth c b L xs D tI tII B) (hcs : cells ≤ room_1.cells ∧ slots ≤ room_1.slots) (hin : ∀ j : Int32, 0 ≤ j ∧ j ≤ 5 → vp_in (x3 + j) L) (hM : wt_St D tI tII B σ s H locs) (hl : lv_has ls 4 [(3, .int x3), (0, .ref b), (1, .ref (B + 0)), (2, .ref (B + 101))]) (kk : ∀ (σ2 : Mem) (H : Heap) (locs : List Loc) (ls : Array Slot), I σ2 → wt_St D tI tII B σ2 s H locs → lv_has ls 4 [(3, .int x3), (0, .ref b), (1, .ref (B + 0)), (2, .ref (B + 101))] → W p l e room_1 s m #[Value.ref b] below meth c H locs cells slots Q (F0 m 1947 ls [])) : W p l e room_1 s m #[Value.ref b] below meth c H locs cells slots Q (F0 m 1224 ls []) := by
  obtain ⟨hx, hb, hts, hown, hml, hX, hbl, hbA, hK⟩ := C
  obtain ⟨r1, σ1, r2, σ2, h1, h2, hI⟩ := hok σ (xs (x3 + 1).toNatClampNeg) (xs (x3 + 2).toNatClampNeg) (xs (x3 + 3).toNatClampNeg) hI
  refine lv_aload_n hx hb dL_law_1224 rfl (lv_at hl 2 rfl) ?_
  refine lv_aload_n hx hb dL_law_1225 rfl (lv_at hl 1 rfl) ?_
  refine lv_iload_n hx hb dL_law_1226 rfl (lv_at hl 0 rfl) ?_
  refine lv_iconst (v := 1) hx hb dL_law_1227 (by decide) ?_
  refine lv_iadd hx hb dL_law_1228 ?_
  refine va_sld hx hb hX hbl hbA hM.2 (hin 1 (by decide)) dL_law_1229 ?_
  refine lv_aload_n hx hb dL_law_1230 rfl (lv_at hl 1 rfl) ?_
  refine lv_iload_n hx hb dL_law_1231 rfl (lv_at hl 0 rfl) ?_
  refine lv_iconst (v := 2) hx hb dL_law_1232 (by decide) ?_
  refine lv_iadd hx hb dL_law_1233 ?_
  refine va_sld hx hb hX hbl hbA hM.2 (hin 2 (by decide)) dL_law_1234 ?_
  refine lv_aload_n hx hb dL_law_1235 rfl (lv_at hl 1 rfl) ?_
  refine lv_iload_n hx hb dL_law_1236 rfl (lv_at hl 0 rfl) ?_
  refine lv_iconst (v := 3) hx hb dL_law_1237 (by decide) ?_
  refine lv_iadd hx hb dL_law_1238 ?_
  refine va_sld hx hb hX hbl hbA hM.2 (hin 3 (by decide)) dL_law_1239 ?_
  refine wl_callVi (As := [.int (xs (x3 + 1).toNatClampNeg), .int (xs (x3 + 2).toNatClampNeg), .int (xs (x3 + 3).toNatClampNeg)]) (rest := []) hx hb hml hts hown hK hM wt_rc_X3 cl_139 hl_X3_whichKind rfl ⟨qz_b rfl, qz_b rfl⟩ ⟨rfl, rfl⟩ hl.1 rfl (qz_b rfl) dL_law_1240 hcs (c_X3_whichKind h1) (fun H locs hM => ?_)
  refine lv_pop hx hb dL_law_1243 rfl ?_
  refine lv_aload_n hx hb dL_law_1244 rfl (lv_at hl 3 rfl) ?_
  refine lv_aload_n hx hb dL_law_1245 rfl (lv_at hl 1 rfl) ?_
  refine lv_iload_n hx hb dL_law_1246 rfl (lv_at hl 0 rfl) ?_
  refine lv_iconst (v := 1) hx hb dL_law_1247 (by decide) ?_
  refine lv_iadd hx hb dL_law_1248 ?_
  refine va_sld hx hb hX hbl hbA hM.2 (hin 1 (by decide)) dL_law_1249 ?_
  refine lv_aload_n hx hb dL_law_1250 rfl (lv_at hl 1 rfl) ?_
  refine lv_iload_n hx hb dL_law_1251 rfl (lv_at hl 0 rfl) ?_
  refine lv_iconst (v := 2) hx hb dL_law_1252 (by decide) ?_
  refine lv_iadd hx hb dL_law_1253 ?_
  refine va_sld hx hb hX hbl hbA hM.2 (hin 2 (by decide)) dL_law_1254 ?_
  refine lv_aload_n hx hb dL_law_1255 rfl (lv_at hl 1 rfl) ?_
  refine lv_iload_n hx hb dL_law_1256 rfl (lv_at hl 0 rfl) ?_
  refine lv_iconst (v := 3) hx hb dL_law_1257 (by decide) ?_
  refine lv_iadd hx hb dL_law_1258 ?_
  refine va_sld hx hb hX hbl hbA hM.2 (hin 3 (by decide)) dL_law_1259 ?_
  refine wl_callVi (As := [.int (xs (x3 + 1).toNatClampNeg), .int (xs (x3 + 2).toNatClampNeg), .int (xs (x3 + 3).toNatClampNeg)]) (rest := []) hx hb hml hts hown hK hM wt_rc_X4 cl_142 hl_X4_whichKind rfl ⟨qz_b rfl, qz_b rfl⟩ ⟨rfl, rfl⟩ hl.1 rfl (qz_b rfl) dL_law_1260 hcs (c_X4_whichKind h2) (fun H locs hM => ?_)
  refine lv_pop hx hb dL_law_1263 rfl ?_
  refine lv_goto (tgt := 1947) hx hb dL_law_1264 (by decide) ?_
  exact kk _ _ _ _ hI hM hl
set_option maxHeartbeats 4000000 in
set_option maxRecDepth 100000 in
theorem lw_case_31 {I : Mem → Prop} {F : Nat} (hok : wl_ok_31 I F) (hI : I σ) (C : wl_C p s m meth c b L xs D tI tII B) (hcs : cells ≤ room_1.cells ∧ slots ≤ room_1.slots) (hin : ∀ j : Int32, 0 ≤ j ∧ j ≤ 5 → vp_in (x3 + j) L) (hM : wt_St D tI tII B σ s H locs) (hl : lv_has ls 4 [(3, .int x3), (0, .ref b), (1, .ref (B + 0)), (2, .ref (B + 101))]) (kk : ∀ (σ2 : Mem) (H : Heap) (locs : List Loc) (ls : Array Slot), I σ2 → wt_St D tI tII B σ2 s H locs → lv_has ls 4 [(3, .int x3), (0, .ref b), (1, .ref (B + 0)), (2, .ref (B + 101))] → W p l e room_1 s m #[Value.ref b] below meth c H locs cells slots Q (F0 m 1947 ls [])) : W p l e room_1 s m #[Value.ref b] below meth c H locs cells slots Q (F0 m 1267 ls []) := by
  obtain ⟨hx, hb, hts, hown, hml, hX, hbl, hbA, hK⟩ := C
  obtain ⟨r1, σ1, r2, σ2, h1, h2, hI, he⟩ := hok σ (xs (x3 + 1).toNatClampNeg) (xs (x3 + 2).toNatClampNeg) (xs (x3 + 3).toNatClampNeg) (xs (x3 + 4).toNatClampNeg) (xs (x3 + 5).toNatClampNeg) hI
  refine lv_aload_n hx hb dL_law_1267 rfl (lv_at hl 2 rfl) ?_
  refine lv_aload_n hx hb dL_law_1268 rfl (lv_at hl 1 rfl) ?_
  refine lv_iload_n hx hb dL_law_1269 rfl (lv_at hl 0 rfl) ?_
  refine lv_iconst (v := 1) hx hb dL_law_1270 (by decide) ?_
  refine lv_iadd hx hb dL_law_1271 ?_
  refine va_sld hx hb hX hbl hbA hM.2 (hin 1 (by decide)) dL_law_1272 ?_
  refine lv_aload_n hx hb dL_law_1273 rfl (lv_at hl 1 rfl) ?_
  refine lv_iload_n hx hb dL_law_1274 rfl (lv_at hl 0 rfl) ?_
  refine lv_iconst (v := 2) hx hb dL_law_1275 (by decide) ?_
  refine lv_iadd hx hb dL_law_1276 ?_
  refine va_sld hx hb hX hbl hbA hM.2 (hin 2 (by decide)) dL_law_1277 ?_
  refine lv_aload_n hx hb dL_law_1278 rfl (lv_at hl 1 rfl) ?_
  refine lv_iload_n hx hb dL_law_1279 rfl (lv_at hl 0 rfl) ?_
  refine lv_iconst (v := 3) hx hb dL_law_1280 (by decide) ?_
  refine lv_iadd hx hb dL_law_1281 ?_
  refine va_sld hx hb hX hbl hbA hM.2 (hin 3 (by decide)) dL_law_1282 ?_
  refine lv_aload_n hx hb dL_law_1283 rfl (lv_at hl 1 rfl) ?_
  refine lv_iload_n hx hb dL_law_1284 rfl (lv_at hl 0 rfl) ?_
  refine lv_iconst (v := 4) hx hb dL_law_1285 (by decide) ?_
  refine lv_iadd hx hb dL_law_1286 ?_
  refine va_sld hx hb hX hbl hbA hM.2 (hin 4 (by decide)) dL_law_1287 ?_
  refine lv_aload_n hx hb dL_law_1288 rfl (lv_at hl 1 rfl) ?_
  refine lv_iload_n hx hb dL_law_1289 rfl (lv_at hl 0 rfl) ?_
  refine lv_iconst (v := 5) hx hb dL_law_1290 (by decide) ?_
  refine lv_iadd hx hb dL_law_1291 ?_
  refine va_sld hx hb hX hbl hbA hM.2 (hin 5 (by decide)) dL_law_1292 ?_
  refine wl_callVl (As := [.int (xs (x3 + 1).toNatClampNeg), .int (xs (x3 + 2).toNatClampNeg), .int (xs (x3 + 3).toNatClampNeg), .int (xs (x3 + 4).toNatClampNeg), .int (xs (x3 + 5).toNatClampNeg)]) (rest := []) hx hb hml hts hown hK hM wt_rc_X3 cl_143 hl_X3_ill rfl ⟨qz_b rfl, qz_b rfl⟩ ⟨rfl, rfl⟩ hl.1 rfl (qz_b rfl) dL_law_1293 hcs (c_X3_ill h1) (fun H locs hM => ?_)
  refine lv_aload_n hx hb dL_law_1296 rfl (lv_at hl 3 rfl) ?_
  refine lv_aload_n hx hb dL_law_1297 rfl (lv_at hl 1 rfl) ?_
  refine lv_iload_n hx hb dL_law_1298 rfl (lv_at hl 0 rfl) ?_
  refine lv_iconst (v := 1) hx hb dL_law_1299 (by decide) ?_
  refine lv_iadd hx hb dL_law_1300 ?_
  refine va_sld hx hb hX hbl hbA hM.2 (hin 1 (by decide)) dL_law_1301 ?_
  refine lv_aload_n hx hb dL_law_1302 rfl (lv_at hl 1 rfl) ?_
  refine lv_iload_n hx hb dL_law_1303 rfl (lv_at hl 0 rfl) ?_
  refine lv_iconst (v := 2) hx hb dL_law_1304 (by decide) ?_
  refine lv_iadd hx hb dL_law_1305 ?_
  refine va_sld hx hb hX hbl hbA hM.2 (hin 2 (by decide)) dL_law_1306 ?_
  refine lv_aload_n hx hb dL_law_1307 rfl (lv_at hl 1 rfl) ?_
  refine lv_iload_n hx hb dL_law_1308 rfl (lv_at hl 0 rfl) ?_
  refine lv_iconst (v := 3) hx hb dL_law_1309 (by decide) ?_
  refine lv_iadd hx hb dL_law_1310 ?_
  refine va_sld hx hb hX hbl hbA hM.2 (hin 3 (by decide)) dL_law_1311 ?_
  refine lv_aload_n hx hb dL_law_1312 rfl (lv_at hl 1 rfl) ?_
  refine lv_iload_n hx hb dL_law_1313 rfl (lv_at hl 0 rfl) ?_
  refine lv_iconst (v := 4) hx hb dL_law_1314 (by decide) ?_
  refine lv_iadd hx hb dL_law_1315 ?_
  refine va_sld hx hb hX hbl hbA hM.2 (hin 4 (by decide)) dL_law_1316 ?_
  refine lv_aload_n hx hb dL_law_1317 rfl (lv_at hl 1 rfl) ?_
  refine lv_iload_n hx hb dL_law_1318 rfl (lv_at hl 0 rfl) ?_
  refine lv_iconst (v := 5) hx hb dL_law_1319 (by decide) ?_
  refine lv_iadd hx hb dL_law_1320 ?_
  refine va_sld hx hb hX hbl hbA hM.2 (hin 5 (by decide)) dL_law_1321 ?_
  refine wl_callVl (As := [.int (xs (x3 + 1).toNatClampNeg), .int (xs (x3 + 2).toNatClampNeg), .int (xs (x3 + 3).toNatClampNeg), .int (xs (x3 + 4).toNatClampNeg), .int (xs (x3 + 5).toNatClampNeg)]) (rest := [.long r1]) hx hb hml hts hown hK hM wt_rc_X4 cl_147 hl_X4_ill rfl ⟨qz_b rfl, qz_b rfl⟩ ⟨rfl, rfl⟩ hl.1 rfl (qz_b rfl) dL_law_1322 hcs (c_X4_ill h2) (fun H locs hM => ?_)
  refine W.lcmp hx hb dL_law_1325 ?_
  refine lv_if_eq (tgt := 1947) hx hb dL_law_1326 (by decide) (fun _ => ?_) (fun c9 => absurd (by rw [he]; exact wl_cmp_self _) c9)
  exact kk _ _ _ _ hI hM hl
set_option maxHeartbeats 4000000 in
set_option maxRecDepth 100000 in
theorem lw_case_32 {I : Mem → Prop} {F : Nat} (hok : wl_ok_32 I F) (hI : I σ) (C : wl_C p s m meth c b L xs D tI tII B) (hcs : cells ≤ room_1.cells ∧ slots ≤ room_1.slots) (hin : ∀ j : Int32, 0 ≤ j ∧ j ≤ 5 → vp_in (x3 + j) L) (hM : wt_St D tI tII B σ s H locs) (hl : lv_has ls 4 [(3, .int x3), (0, .ref b), (1, .ref (B + 0)), (2, .ref (B + 101))]) (kk : ∀ (σ2 : Mem) (H : Heap) (locs : List Loc) (ls : Array Slot), I σ2 → wt_St D tI tII B σ2 s H locs → lv_has ls 4 [(3, .int x3), (0, .ref b), (1, .ref (B + 0)), (2, .ref (B + 101))] → W p l e room_1 s m #[Value.ref b] below meth c H locs cells slots Q (F0 m 1947 ls [])) : W p l e room_1 s m #[Value.ref b] below meth c H locs cells slots Q (F0 m 1331 ls []) := by
  obtain ⟨hx, hb, hts, hown, hml, hX, hbl, hbA, hK⟩ := C
  obtain ⟨r1, σ1, r2, σ2, h1, h2, hI⟩ := hok σ (xs (x3 + 1).toNatClampNeg) hI
  refine lv_aload_n hx hb dL_law_1331 rfl (lv_at hl 2 rfl) ?_
  refine lv_aload_n hx hb dL_law_1332 rfl (lv_at hl 1 rfl) ?_
  refine lv_iload_n hx hb dL_law_1333 rfl (lv_at hl 0 rfl) ?_
  refine lv_iconst (v := 1) hx hb dL_law_1334 (by decide) ?_
  refine lv_iadd hx hb dL_law_1335 ?_
  refine va_sld hx hb hX hbl hbA hM.2 (hin 1 (by decide)) dL_law_1336 ?_
  refine wl_callVi (As := [.int (xs (x3 + 1).toNatClampNeg)]) (rest := []) hx hb hml hts hown hK hM wt_rc_X3 cl_148 hl_X3_busy rfl ⟨qz_b rfl, qz_b rfl⟩ ⟨rfl, rfl⟩ hl.1 rfl (qz_b rfl) dL_law_1337 hcs (c_X3_busy h1) (fun H locs hM => ?_)
  refine lv_pop hx hb dL_law_1340 rfl ?_
  refine lv_aload_n hx hb dL_law_1341 rfl (lv_at hl 3 rfl) ?_
  refine lv_aload_n hx hb dL_law_1342 rfl (lv_at hl 1 rfl) ?_
  refine lv_iload_n hx hb dL_law_1343 rfl (lv_at hl 0 rfl) ?_
  refine lv_iconst (v := 1) hx hb dL_law_1344 (by decide) ?_
  refine lv_iadd hx hb dL_law_1345 ?_
  refine va_sld hx hb hX hbl hbA hM.2 (hin 1 (by decide)) dL_law_1346 ?_
  refine wl_callVi (As := [.int (xs (x3 + 1).toNatClampNeg)]) (rest := []) hx hb hml hts hown hK hM wt_rc_X4 cl_151 hl_X4_busy rfl ⟨qz_b rfl, qz_b rfl⟩ ⟨rfl, rfl⟩ hl.1 rfl (qz_b rfl) dL_law_1347 hcs (c_X4_busy h2) (fun H locs hM => ?_)
  refine lv_pop hx hb dL_law_1350 rfl ?_
  refine lv_goto (tgt := 1947) hx hb dL_law_1351 (by decide) ?_
  exact kk _ _ _ _ hI hM hl
set_option maxHeartbeats 4000000 in
set_option maxRecDepth 100000 in
theorem lw_case_33 {I : Mem → Prop} {F : Nat} (hok : wl_ok_33 I F) (hI : I σ) (C : wl_C p s m meth c b L xs D tI tII B) (hcs : cells ≤ room_1.cells ∧ slots ≤ room_1.slots) (hin : ∀ j : Int32, 0 ≤ j ∧ j ≤ 5 → vp_in (x3 + j) L) (hM : wt_St D tI tII B σ s H locs) (hl : lv_has ls 4 [(3, .int x3), (0, .ref b), (1, .ref (B + 0)), (2, .ref (B + 101))]) (kk : ∀ (σ2 : Mem) (H : Heap) (locs : List Loc) (ls : Array Slot), I σ2 → wt_St D tI tII B σ2 s H locs → lv_has ls 4 [(3, .int x3), (0, .ref b), (1, .ref (B + 0)), (2, .ref (B + 101))] → W p l e room_1 s m #[Value.ref b] below meth c H locs cells slots Q (F0 m 1947 ls [])) : W p l e room_1 s m #[Value.ref b] below meth c H locs cells slots Q (F0 m 1354 ls []) := by
  obtain ⟨hx, hb, hts, hown, hml, hX, hbl, hbA, hK⟩ := C
  obtain ⟨r1, σ1, r2, σ2, h1, h2, hI⟩ := hok σ (xs (x3 + 1).toNatClampNeg) (xs (x3 + 2).toNatClampNeg) hI
  refine lv_aload_n hx hb dL_law_1354 rfl (lv_at hl 2 rfl) ?_
  refine lv_aload_n hx hb dL_law_1355 rfl (lv_at hl 1 rfl) ?_
  refine lv_iload_n hx hb dL_law_1356 rfl (lv_at hl 0 rfl) ?_
  refine lv_iconst (v := 1) hx hb dL_law_1357 (by decide) ?_
  refine lv_iadd hx hb dL_law_1358 ?_
  refine va_sld hx hb hX hbl hbA hM.2 (hin 1 (by decide)) dL_law_1359 ?_
  refine lv_aload_n hx hb dL_law_1360 rfl (lv_at hl 1 rfl) ?_
  refine lv_iload_n hx hb dL_law_1361 rfl (lv_at hl 0 rfl) ?_
  refine lv_iconst (v := 2) hx hb dL_law_1362 (by decide) ?_
  refine lv_iadd hx hb dL_law_1363 ?_
  refine va_sld hx hb hX hbl hbA hM.2 (hin 2 (by decide)) dL_law_1364 ?_
  refine wl_callVi (As := [.int (xs (x3 + 1).toNatClampNeg), .int (xs (x3 + 2).toNatClampNeg)]) (rest := []) hx hb hml hts hown hK hM wt_rc_X3 cl_152 hl_X3_together rfl ⟨qz_b rfl, qz_b rfl⟩ ⟨rfl, rfl⟩ hl.1 rfl (qz_b rfl) dL_law_1365 hcs (c_X3_together h1) (fun H locs hM => ?_)
  refine lv_pop hx hb dL_law_1368 rfl ?_
  refine lv_aload_n hx hb dL_law_1369 rfl (lv_at hl 3 rfl) ?_
  refine lv_aload_n hx hb dL_law_1370 rfl (lv_at hl 1 rfl) ?_
  refine lv_iload_n hx hb dL_law_1371 rfl (lv_at hl 0 rfl) ?_
  refine lv_iconst (v := 1) hx hb dL_law_1372 (by decide) ?_
  refine lv_iadd hx hb dL_law_1373 ?_
  refine va_sld hx hb hX hbl hbA hM.2 (hin 1 (by decide)) dL_law_1374 ?_
  refine lv_aload_n hx hb dL_law_1375 rfl (lv_at hl 1 rfl) ?_
  refine lv_iload_n hx hb dL_law_1376 rfl (lv_at hl 0 rfl) ?_
  refine lv_iconst (v := 2) hx hb dL_law_1377 (by decide) ?_
  refine lv_iadd hx hb dL_law_1378 ?_
  refine va_sld hx hb hX hbl hbA hM.2 (hin 2 (by decide)) dL_law_1379 ?_
  refine wl_callVi (As := [.int (xs (x3 + 1).toNatClampNeg), .int (xs (x3 + 2).toNatClampNeg)]) (rest := []) hx hb hml hts hown hK hM wt_rc_X4 cl_155 hl_X4_together rfl ⟨qz_b rfl, qz_b rfl⟩ ⟨rfl, rfl⟩ hl.1 rfl (qz_b rfl) dL_law_1380 hcs (c_X4_together h2) (fun H locs hM => ?_)
  refine lv_pop hx hb dL_law_1383 rfl ?_
  refine lv_goto (tgt := 1947) hx hb dL_law_1384 (by decide) ?_
  exact kk _ _ _ _ hI hM hl
set_option maxHeartbeats 4000000 in
set_option maxRecDepth 100000 in
theorem lw_case_34 {I : Mem → Prop} {F : Nat} (hok : wl_ok_34 I F) (hI : I σ) (C : wl_C p s m meth c b L xs D tI tII B) (hcs : cells ≤ room_1.cells ∧ slots ≤ room_1.slots) (hin : ∀ j : Int32, 0 ≤ j ∧ j ≤ 5 → vp_in (x3 + j) L) (hM : wt_St D tI tII B σ s H locs) (hl : lv_has ls 4 [(3, .int x3), (0, .ref b), (1, .ref (B + 0)), (2, .ref (B + 101))]) (kk : ∀ (σ2 : Mem) (H : Heap) (locs : List Loc) (ls : Array Slot), I σ2 → wt_St D tI tII B σ2 s H locs → lv_has ls 4 [(3, .int x3), (0, .ref b), (1, .ref (B + 0)), (2, .ref (B + 101))] → W p l e room_1 s m #[Value.ref b] below meth c H locs cells slots Q (F0 m 1947 ls [])) : W p l e room_1 s m #[Value.ref b] below meth c H locs cells slots Q (F0 m 1387 ls []) := by
  obtain ⟨hx, hb, hts, hown, hml, hX, hbl, hbA, hK⟩ := C
  obtain ⟨r1, σ1, r2, σ2, h1, h2, hI⟩ := hok σ (xs (x3 + 1).toNatClampNeg) hI
  refine lv_aload_n hx hb dL_law_1387 rfl (lv_at hl 2 rfl) ?_
  refine lv_aload_n hx hb dL_law_1388 rfl (lv_at hl 1 rfl) ?_
  refine lv_iload_n hx hb dL_law_1389 rfl (lv_at hl 0 rfl) ?_
  refine lv_iconst (v := 1) hx hb dL_law_1390 (by decide) ?_
  refine lv_iadd hx hb dL_law_1391 ?_
  refine va_sld hx hb hX hbl hbA hM.2 (hin 1 (by decide)) dL_law_1392 ?_
  refine wl_callVi (As := [.int (xs (x3 + 1).toNatClampNeg)]) (rest := []) hx hb hml hts hown hK hM wt_rc_X3 cl_156 hl_X3_swap rfl ⟨qz_b rfl, qz_b rfl⟩ ⟨rfl, rfl⟩ hl.1 rfl (qz_b rfl) dL_law_1393 hcs (c_X3_swap h1) (fun H locs hM => ?_)
  refine lv_pop hx hb dL_law_1396 rfl ?_
  refine lv_aload_n hx hb dL_law_1397 rfl (lv_at hl 3 rfl) ?_
  refine lv_aload_n hx hb dL_law_1398 rfl (lv_at hl 1 rfl) ?_
  refine lv_iload_n hx hb dL_law_1399 rfl (lv_at hl 0 rfl) ?_
  refine lv_iconst (v := 1) hx hb dL_law_1400 (by decide) ?_
  refine lv_iadd hx hb dL_law_1401 ?_
  refine va_sld hx hb hX hbl hbA hM.2 (hin 1 (by decide)) dL_law_1402 ?_
  refine wl_callVi (As := [.int (xs (x3 + 1).toNatClampNeg)]) (rest := []) hx hb hml hts hown hK hM wt_rc_X4 cl_159 hl_X4_swap rfl ⟨qz_b rfl, qz_b rfl⟩ ⟨rfl, rfl⟩ hl.1 rfl (qz_b rfl) dL_law_1403 hcs (c_X4_swap h2) (fun H locs hM => ?_)
  refine lv_pop hx hb dL_law_1406 rfl ?_
  refine lv_goto (tgt := 1947) hx hb dL_law_1407 (by decide) ?_
  exact kk _ _ _ _ hI hM hl
set_option maxHeartbeats 4000000 in
set_option maxRecDepth 100000 in
theorem lw_case_35 {I : Mem → Prop} {F : Nat} (hok : wl_ok_35 I F) (hI : I σ) (C : wl_C p s m meth c b L xs D tI tII B) (hcs : cells ≤ room_1.cells ∧ slots ≤ room_1.slots) (hin : ∀ j : Int32, 0 ≤ j ∧ j ≤ 5 → vp_in (x3 + j) L) (hM : wt_St D tI tII B σ s H locs) (hl : lv_has ls 4 [(3, .int x3), (0, .ref b), (1, .ref (B + 0)), (2, .ref (B + 101))]) (kk : ∀ (σ2 : Mem) (H : Heap) (locs : List Loc) (ls : Array Slot), I σ2 → wt_St D tI tII B σ2 s H locs → lv_has ls 4 [(3, .int x3), (0, .ref b), (1, .ref (B + 0)), (2, .ref (B + 101))] → W p l e room_1 s m #[Value.ref b] below meth c H locs cells slots Q (F0 m 1947 ls [])) : W p l e room_1 s m #[Value.ref b] below meth c H locs cells slots Q (F0 m 1410 ls []) := by
  obtain ⟨hx, hb, hts, hown, hml, hX, hbl, hbA, hK⟩ := C
  obtain ⟨r1, σ1, r2, σ2, h1, h2, hI⟩ := hok σ (xs (x3 + 1).toNatClampNeg) (xs (x3 + 2).toNatClampNeg) (xs (x3 + 3).toNatClampNeg) hI
  refine lv_aload_n hx hb dL_law_1410 rfl (lv_at hl 2 rfl) ?_
  refine lv_aload_n hx hb dL_law_1411 rfl (lv_at hl 1 rfl) ?_
  refine lv_iload_n hx hb dL_law_1412 rfl (lv_at hl 0 rfl) ?_
  refine lv_iconst (v := 1) hx hb dL_law_1413 (by decide) ?_
  refine lv_iadd hx hb dL_law_1414 ?_
  refine va_sld hx hb hX hbl hbA hM.2 (hin 1 (by decide)) dL_law_1415 ?_
  refine lv_aload_n hx hb dL_law_1416 rfl (lv_at hl 1 rfl) ?_
  refine lv_iload_n hx hb dL_law_1417 rfl (lv_at hl 0 rfl) ?_
  refine lv_iconst (v := 2) hx hb dL_law_1418 (by decide) ?_
  refine lv_iadd hx hb dL_law_1419 ?_
  refine va_sld hx hb hX hbl hbA hM.2 (hin 2 (by decide)) dL_law_1420 ?_
  refine lv_aload_n hx hb dL_law_1421 rfl (lv_at hl 1 rfl) ?_
  refine lv_iload_n hx hb dL_law_1422 rfl (lv_at hl 0 rfl) ?_
  refine lv_iconst (v := 3) hx hb dL_law_1423 (by decide) ?_
  refine lv_iadd hx hb dL_law_1424 ?_
  refine va_sld hx hb hX hbl hbA hM.2 (hin 3 (by decide)) dL_law_1425 ?_
  refine wl_callVi (As := [.int (xs (x3 + 1).toNatClampNeg), .int (xs (x3 + 2).toNatClampNeg), .int (xs (x3 + 3).toNatClampNeg)]) (rest := []) hx hb hml hts hown hK hM wt_rc_X3 cl_160 hl_X3_heir rfl ⟨qz_b rfl, qz_b rfl⟩ ⟨rfl, rfl⟩ hl.1 rfl (qz_b rfl) dL_law_1426 hcs (c_X3_heir h1) (fun H locs hM => ?_)
  refine lv_pop hx hb dL_law_1429 rfl ?_
  refine lv_aload_n hx hb dL_law_1430 rfl (lv_at hl 3 rfl) ?_
  refine lv_aload_n hx hb dL_law_1431 rfl (lv_at hl 1 rfl) ?_
  refine lv_iload_n hx hb dL_law_1432 rfl (lv_at hl 0 rfl) ?_
  refine lv_iconst (v := 1) hx hb dL_law_1433 (by decide) ?_
  refine lv_iadd hx hb dL_law_1434 ?_
  refine va_sld hx hb hX hbl hbA hM.2 (hin 1 (by decide)) dL_law_1435 ?_
  refine lv_aload_n hx hb dL_law_1436 rfl (lv_at hl 1 rfl) ?_
  refine lv_iload_n hx hb dL_law_1437 rfl (lv_at hl 0 rfl) ?_
  refine lv_iconst (v := 2) hx hb dL_law_1438 (by decide) ?_
  refine lv_iadd hx hb dL_law_1439 ?_
  refine va_sld hx hb hX hbl hbA hM.2 (hin 2 (by decide)) dL_law_1440 ?_
  refine lv_aload_n hx hb dL_law_1441 rfl (lv_at hl 1 rfl) ?_
  refine lv_iload_n hx hb dL_law_1442 rfl (lv_at hl 0 rfl) ?_
  refine lv_iconst (v := 3) hx hb dL_law_1443 (by decide) ?_
  refine lv_iadd hx hb dL_law_1444 ?_
  refine va_sld hx hb hX hbl hbA hM.2 (hin 3 (by decide)) dL_law_1445 ?_
  refine wl_callVi (As := [.int (xs (x3 + 1).toNatClampNeg), .int (xs (x3 + 2).toNatClampNeg), .int (xs (x3 + 3).toNatClampNeg)]) (rest := []) hx hb hml hts hown hK hM wt_rc_X4 cl_163 hl_X4_heir rfl ⟨qz_b rfl, qz_b rfl⟩ ⟨rfl, rfl⟩ hl.1 rfl (qz_b rfl) dL_law_1446 hcs (c_X4_heir h2) (fun H locs hM => ?_)
  refine lv_pop hx hb dL_law_1449 rfl ?_
  refine lv_goto (tgt := 1947) hx hb dL_law_1450 (by decide) ?_
  exact kk _ _ _ _ hI hM hl
set_option maxHeartbeats 4000000 in
set_option maxRecDepth 100000 in
theorem lw_case_36 {I : Mem → Prop} {F : Nat} (hok : wl_ok_36 I F) (hI : I σ) (C : wl_C p s m meth c b L xs D tI tII B) (hcs : cells ≤ room_1.cells ∧ slots ≤ room_1.slots) (hin : ∀ j : Int32, 0 ≤ j ∧ j ≤ 5 → vp_in (x3 + j) L) (hM : wt_St D tI tII B σ s H locs) (hl : lv_has ls 4 [(3, .int x3), (0, .ref b), (1, .ref (B + 0)), (2, .ref (B + 101))]) (kk : ∀ (σ2 : Mem) (H : Heap) (locs : List Loc) (ls : Array Slot), I σ2 → wt_St D tI tII B σ2 s H locs → lv_has ls 4 [(3, .int x3), (0, .ref b), (1, .ref (B + 0)), (2, .ref (B + 101))] → W p l e room_1 s m #[Value.ref b] below meth c H locs cells slots Q (F0 m 1947 ls [])) : W p l e room_1 s m #[Value.ref b] below meth c H locs cells slots Q (F0 m 1453 ls []) := by
  obtain ⟨hx, hb, hts, hown, hml, hX, hbl, hbA, hK⟩ := C
  obtain ⟨r1, σ1, r2, σ2, h1, h2, hI⟩ := hok σ (xs (x3 + 1).toNatClampNeg) hI
  refine lv_aload_n hx hb dL_law_1453 rfl (lv_at hl 2 rfl) ?_
  refine lv_aload_n hx hb dL_law_1454 rfl (lv_at hl 1 rfl) ?_
  refine lv_iload_n hx hb dL_law_1455 rfl (lv_at hl 0 rfl) ?_
  refine lv_iconst (v := 1) hx hb dL_law_1456 (by decide) ?_
  refine lv_iadd hx hb dL_law_1457 ?_
  refine va_sld hx hb hX hbl hbA hM.2 (hin 1 (by decide)) dL_law_1458 ?_
  refine wl_callVi (As := [.int (xs (x3 + 1).toNatClampNeg)]) (rest := []) hx hb hml hts hown hK hM wt_rc_X3 cl_164 hl_X3_even rfl ⟨qz_b rfl, qz_b rfl⟩ ⟨rfl, rfl⟩ hl.1 rfl (qz_b rfl) dL_law_1459 hcs (c_X3_even h1) (fun H locs hM => ?_)
  refine lv_pop hx hb dL_law_1462 rfl ?_
  refine lv_aload_n hx hb dL_law_1463 rfl (lv_at hl 3 rfl) ?_
  refine lv_aload_n hx hb dL_law_1464 rfl (lv_at hl 1 rfl) ?_
  refine lv_iload_n hx hb dL_law_1465 rfl (lv_at hl 0 rfl) ?_
  refine lv_iconst (v := 1) hx hb dL_law_1466 (by decide) ?_
  refine lv_iadd hx hb dL_law_1467 ?_
  refine va_sld hx hb hX hbl hbA hM.2 (hin 1 (by decide)) dL_law_1468 ?_
  refine wl_callVi (As := [.int (xs (x3 + 1).toNatClampNeg)]) (rest := []) hx hb hml hts hown hK hM wt_rc_X4 cl_167 hl_X4_even rfl ⟨qz_b rfl, qz_b rfl⟩ ⟨rfl, rfl⟩ hl.1 rfl (qz_b rfl) dL_law_1469 hcs (c_X4_even h2) (fun H locs hM => ?_)
  refine lv_pop hx hb dL_law_1472 rfl ?_
  refine lv_goto (tgt := 1947) hx hb dL_law_1473 (by decide) ?_
  exact kk _ _ _ _ hI hM hl
set_option maxHeartbeats 4000000 in
set_option maxRecDepth 100000 in
theorem lw_case_37 {I : Mem → Prop} {F : Nat} (hok : wl_ok_37 I F) (hI : I σ) (C : wl_C p s m meth c b L xs D tI tII B) (hcs : cells ≤ room_1.cells ∧ slots ≤ room_1.slots) (hin : ∀ j : Int32, 0 ≤ j ∧ j ≤ 5 → vp_in (x3 + j) L) (hM : wt_St D tI tII B σ s H locs) (hl : lv_has ls 4 [(3, .int x3), (0, .ref b), (1, .ref (B + 0)), (2, .ref (B + 101))]) (kk : ∀ (σ2 : Mem) (H : Heap) (locs : List Loc) (ls : Array Slot), I σ2 → wt_St D tI tII B σ2 s H locs → lv_has ls 4 [(3, .int x3), (0, .ref b), (1, .ref (B + 0)), (2, .ref (B + 101))] → W p l e room_1 s m #[Value.ref b] below meth c H locs cells slots Q (F0 m 1947 ls [])) : W p l e room_1 s m #[Value.ref b] below meth c H locs cells slots Q (F0 m 1476 ls []) := by
  obtain ⟨hx, hb, hts, hown, hml, hX, hbl, hbA, hK⟩ := C
  obtain ⟨r1, σ1, r2, σ2, h1, h2, hI⟩ := hok σ hI
  refine lv_aload_n hx hb dL_law_1476 rfl (lv_at hl 2 rfl) ?_
  refine wl_callVi (As := []) (rest := []) hx hb hml hts hown hK hM wt_rc_X3 cl_168 hl_X3_last rfl ⟨qz_b rfl, qz_b rfl⟩ ⟨rfl, rfl⟩ hl.1 rfl (qz_b rfl) dL_law_1477 hcs (c_X3_last h1) (fun H locs hM => ?_)
  refine lv_pop hx hb dL_law_1480 rfl ?_
  refine lv_aload_n hx hb dL_law_1481 rfl (lv_at hl 3 rfl) ?_
  refine wl_callVi (As := []) (rest := []) hx hb hml hts hown hK hM wt_rc_X4 cl_171 hl_X4_last rfl ⟨qz_b rfl, qz_b rfl⟩ ⟨rfl, rfl⟩ hl.1 rfl (qz_b rfl) dL_law_1482 hcs (c_X4_last h2) (fun H locs hM => ?_)
  refine lv_pop hx hb dL_law_1485 rfl ?_
  refine lv_goto (tgt := 1947) hx hb dL_law_1486 (by decide) ?_
  exact kk _ _ _ _ hI hM hl
set_option maxHeartbeats 4000000 in
set_option maxRecDepth 100000 in
theorem lw_case_38 {I : Mem → Prop} {F : Nat} (hok : wl_ok_38 I F) (hI : I σ) (C : wl_C p s m meth c b L xs D tI tII B) (hcs : cells ≤ room_1.cells ∧ slots ≤ room_1.slots) (hin : ∀ j : Int32, 0 ≤ j ∧ j ≤ 5 → vp_in (x3 + j) L) (hM : wt_St D tI tII B σ s H locs) (hl : lv_has ls 4 [(3, .int x3), (0, .ref b), (1, .ref (B + 0)), (2, .ref (B + 101))]) (kk : ∀ (σ2 : Mem) (H : Heap) (locs : List Loc) (ls : Array Slot), I σ2 → wt_St D tI tII B σ2 s H locs → lv_has ls 4 [(3, .int x3), (0, .ref b), (1, .ref (B + 0)), (2, .ref (B + 101))] → W p l e room_1 s m #[Value.ref b] below meth c H locs cells slots Q (F0 m 1947 ls [])) : W p l e room_1 s m #[Value.ref b] below meth c H locs cells slots Q (F0 m 1489 ls []) := by
  obtain ⟨hx, hb, hts, hown, hml, hX, hbl, hbA, hK⟩ := C
  obtain ⟨r1, σ1, r2, σ2, h1, h2, hI⟩ := hok σ (xs (x3 + 1).toNatClampNeg) (xs (x3 + 2).toNatClampNeg) (xs (x3 + 3).toNatClampNeg) hI
  refine lv_aload_n hx hb dL_law_1489 rfl (lv_at hl 2 rfl) ?_
  refine lv_aload_n hx hb dL_law_1490 rfl (lv_at hl 1 rfl) ?_
  refine lv_iload_n hx hb dL_law_1491 rfl (lv_at hl 0 rfl) ?_
  refine lv_iconst (v := 1) hx hb dL_law_1492 (by decide) ?_
  refine lv_iadd hx hb dL_law_1493 ?_
  refine va_sld hx hb hX hbl hbA hM.2 (hin 1 (by decide)) dL_law_1494 ?_
  refine lv_aload_n hx hb dL_law_1495 rfl (lv_at hl 1 rfl) ?_
  refine lv_iload_n hx hb dL_law_1496 rfl (lv_at hl 0 rfl) ?_
  refine lv_iconst (v := 2) hx hb dL_law_1497 (by decide) ?_
  refine lv_iadd hx hb dL_law_1498 ?_
  refine va_sld hx hb hX hbl hbA hM.2 (hin 2 (by decide)) dL_law_1499 ?_
  refine lv_aload_n hx hb dL_law_1500 rfl (lv_at hl 1 rfl) ?_
  refine lv_iload_n hx hb dL_law_1501 rfl (lv_at hl 0 rfl) ?_
  refine lv_iconst (v := 3) hx hb dL_law_1502 (by decide) ?_
  refine lv_iadd hx hb dL_law_1503 ?_
  refine va_sld hx hb hX hbl hbA hM.2 (hin 3 (by decide)) dL_law_1504 ?_
  refine wl_callVi (As := [.int (xs (x3 + 1).toNatClampNeg), .int (xs (x3 + 2).toNatClampNeg), .int (xs (x3 + 3).toNatClampNeg)]) (rest := []) hx hb hml hts hown hK hM wt_rc_X3 cl_172 hl_X3_joint rfl ⟨qz_b rfl, qz_b rfl⟩ ⟨rfl, rfl⟩ hl.1 rfl (qz_b rfl) dL_law_1505 hcs (c_X3_joint h1) (fun H locs hM => ?_)
  refine lv_pop hx hb dL_law_1508 rfl ?_
  refine lv_aload_n hx hb dL_law_1509 rfl (lv_at hl 3 rfl) ?_
  refine lv_aload_n hx hb dL_law_1510 rfl (lv_at hl 1 rfl) ?_
  refine lv_iload_n hx hb dL_law_1511 rfl (lv_at hl 0 rfl) ?_
  refine lv_iconst (v := 1) hx hb dL_law_1512 (by decide) ?_
  refine lv_iadd hx hb dL_law_1513 ?_
  refine va_sld hx hb hX hbl hbA hM.2 (hin 1 (by decide)) dL_law_1514 ?_
  refine lv_aload_n hx hb dL_law_1515 rfl (lv_at hl 1 rfl) ?_
  refine lv_iload_n hx hb dL_law_1516 rfl (lv_at hl 0 rfl) ?_
  refine lv_iconst (v := 2) hx hb dL_law_1517 (by decide) ?_
  refine lv_iadd hx hb dL_law_1518 ?_
  refine va_sld hx hb hX hbl hbA hM.2 (hin 2 (by decide)) dL_law_1519 ?_
  refine lv_aload_n hx hb dL_law_1520 rfl (lv_at hl 1 rfl) ?_
  refine lv_iload_n hx hb dL_law_1521 rfl (lv_at hl 0 rfl) ?_
  refine lv_iconst (v := 3) hx hb dL_law_1522 (by decide) ?_
  refine lv_iadd hx hb dL_law_1523 ?_
  refine va_sld hx hb hX hbl hbA hM.2 (hin 3 (by decide)) dL_law_1524 ?_
  refine wl_callVi (As := [.int (xs (x3 + 1).toNatClampNeg), .int (xs (x3 + 2).toNatClampNeg), .int (xs (x3 + 3).toNatClampNeg)]) (rest := []) hx hb hml hts hown hK hM wt_rc_X4 cl_175 hl_X4_joint rfl ⟨qz_b rfl, qz_b rfl⟩ ⟨rfl, rfl⟩ hl.1 rfl (qz_b rfl) dL_law_1525 hcs (c_X4_joint h2) (fun H locs hM => ?_)
  refine lv_pop hx hb dL_law_1528 rfl ?_
  refine lv_goto (tgt := 1947) hx hb dL_law_1529 (by decide) ?_
  exact kk _ _ _ _ hI hM hl
set_option maxHeartbeats 4000000 in
set_option maxRecDepth 100000 in
theorem lw_case_39 {I : Mem → Prop} {F : Nat} (hok : wl_ok_39 I F) (hI : I σ) (C : wl_C p s m meth c b L xs D tI tII B) (hcs : cells ≤ room_1.cells ∧ slots ≤ room_1.slots) (hin : ∀ j : Int32, 0 ≤ j ∧ j ≤ 5 → vp_in (x3 + j) L) (hM : wt_St D tI tII B σ s H locs) (hl : lv_has ls 4 [(3, .int x3), (0, .ref b), (1, .ref (B + 0)), (2, .ref (B + 101))]) (kk : ∀ (σ2 : Mem) (H : Heap) (locs : List Loc) (ls : Array Slot), I σ2 → wt_St D tI tII B σ2 s H locs → lv_has ls 4 [(3, .int x3), (0, .ref b), (1, .ref (B + 0)), (2, .ref (B + 101))] → W p l e room_1 s m #[Value.ref b] below meth c H locs cells slots Q (F0 m 1947 ls [])) : W p l e room_1 s m #[Value.ref b] below meth c H locs cells slots Q (F0 m 1532 ls []) := by
  obtain ⟨hx, hb, hts, hown, hml, hX, hbl, hbA, hK⟩ := C
  obtain ⟨r1, σ1, r2, σ2, h1, h2, hI⟩ := hok σ (xs (x3 + 1).toNatClampNeg) (xs (x3 + 2).toNatClampNeg) hI
  refine lv_aload_n hx hb dL_law_1532 rfl (lv_at hl 2 rfl) ?_
  refine lv_aload_n hx hb dL_law_1533 rfl (lv_at hl 1 rfl) ?_
  refine lv_iload_n hx hb dL_law_1534 rfl (lv_at hl 0 rfl) ?_
  refine lv_iconst (v := 1) hx hb dL_law_1535 (by decide) ?_
  refine lv_iadd hx hb dL_law_1536 ?_
  refine va_sld hx hb hX hbl hbA hM.2 (hin 1 (by decide)) dL_law_1537 ?_
  refine lv_aload_n hx hb dL_law_1538 rfl (lv_at hl 1 rfl) ?_
  refine lv_iload_n hx hb dL_law_1539 rfl (lv_at hl 0 rfl) ?_
  refine lv_iconst (v := 2) hx hb dL_law_1540 (by decide) ?_
  refine lv_iadd hx hb dL_law_1541 ?_
  refine va_sld hx hb hX hbl hbA hM.2 (hin 2 (by decide)) dL_law_1542 ?_
  refine wl_callVi (As := [.int (xs (x3 + 1).toNatClampNeg), .int (xs (x3 + 2).toNatClampNeg)]) (rest := []) hx hb hml hts hown hK hM wt_rc_X3 cl_176 hl_X3_rank rfl ⟨qz_b rfl, qz_b rfl⟩ ⟨rfl, rfl⟩ hl.1 rfl (qz_b rfl) dL_law_1543 hcs (c_X3_rank h1) (fun H locs hM => ?_)
  refine lv_pop hx hb dL_law_1546 rfl ?_
  refine lv_aload_n hx hb dL_law_1547 rfl (lv_at hl 3 rfl) ?_
  refine lv_aload_n hx hb dL_law_1548 rfl (lv_at hl 1 rfl) ?_
  refine lv_iload_n hx hb dL_law_1549 rfl (lv_at hl 0 rfl) ?_
  refine lv_iconst (v := 1) hx hb dL_law_1550 (by decide) ?_
  refine lv_iadd hx hb dL_law_1551 ?_
  refine va_sld hx hb hX hbl hbA hM.2 (hin 1 (by decide)) dL_law_1552 ?_
  refine lv_aload_n hx hb dL_law_1553 rfl (lv_at hl 1 rfl) ?_
  refine lv_iload_n hx hb dL_law_1554 rfl (lv_at hl 0 rfl) ?_
  refine lv_iconst (v := 2) hx hb dL_law_1555 (by decide) ?_
  refine lv_iadd hx hb dL_law_1556 ?_
  refine va_sld hx hb hX hbl hbA hM.2 (hin 2 (by decide)) dL_law_1557 ?_
  refine wl_callVi (As := [.int (xs (x3 + 1).toNatClampNeg), .int (xs (x3 + 2).toNatClampNeg)]) (rest := []) hx hb hml hts hown hK hM wt_rc_X4 cl_179 hl_X4_rank rfl ⟨qz_b rfl, qz_b rfl⟩ ⟨rfl, rfl⟩ hl.1 rfl (qz_b rfl) dL_law_1558 hcs (c_X4_rank h2) (fun H locs hM => ?_)
  refine lv_pop hx hb dL_law_1561 rfl ?_
  refine lv_goto (tgt := 1947) hx hb dL_law_1562 (by decide) ?_
  exact kk _ _ _ _ hI hM hl
set_option maxHeartbeats 4000000 in
set_option maxRecDepth 100000 in
theorem lw_case_40 {I : Mem → Prop} {F : Nat} (hok : wl_ok_40 I F) (hI : I σ) (C : wl_C p s m meth c b L xs D tI tII B) (hcs : cells ≤ room_1.cells ∧ slots ≤ room_1.slots) (hin : ∀ j : Int32, 0 ≤ j ∧ j ≤ 5 → vp_in (x3 + j) L) (hM : wt_St D tI tII B σ s H locs) (hl : lv_has ls 4 [(3, .int x3), (0, .ref b), (1, .ref (B + 0)), (2, .ref (B + 101))]) (kk : ∀ (σ2 : Mem) (H : Heap) (locs : List Loc) (ls : Array Slot), I σ2 → wt_St D tI tII B σ2 s H locs → lv_has ls 4 [(3, .int x3), (0, .ref b), (1, .ref (B + 0)), (2, .ref (B + 101))] → W p l e room_1 s m #[Value.ref b] below meth c H locs cells slots Q (F0 m 1947 ls [])) : W p l e room_1 s m #[Value.ref b] below meth c H locs cells slots Q (F0 m 1565 ls []) := by
  obtain ⟨hx, hb, hts, hown, hml, hX, hbl, hbA, hK⟩ := C
  obtain ⟨r1, σ1, r2, σ2, h1, h2, hI⟩ := hok σ (xs (x3 + 1).toNatClampNeg) (xs (x3 + 2).toNatClampNeg) hI
  refine lv_aload_n hx hb dL_law_1565 rfl (lv_at hl 2 rfl) ?_
  refine lv_aload_n hx hb dL_law_1566 rfl (lv_at hl 1 rfl) ?_
  refine lv_iload_n hx hb dL_law_1567 rfl (lv_at hl 0 rfl) ?_
  refine lv_iconst (v := 1) hx hb dL_law_1568 (by decide) ?_
  refine lv_iadd hx hb dL_law_1569 ?_
  refine va_sld hx hb hX hbl hbA hM.2 (hin 1 (by decide)) dL_law_1570 ?_
  refine lv_aload_n hx hb dL_law_1571 rfl (lv_at hl 1 rfl) ?_
  refine lv_iload_n hx hb dL_law_1572 rfl (lv_at hl 0 rfl) ?_
  refine lv_iconst (v := 2) hx hb dL_law_1573 (by decide) ?_
  refine lv_iadd hx hb dL_law_1574 ?_
  refine va_sld hx hb hX hbl hbA hM.2 (hin 2 (by decide)) dL_law_1575 ?_
  refine wl_callVi (As := [.int (xs (x3 + 1).toNatClampNeg), .int (xs (x3 + 2).toNatClampNeg)]) (rest := []) hx hb hml hts hown hK hM wt_rc_X3 cl_180 hl_X3_gap rfl ⟨qz_b rfl, qz_b rfl⟩ ⟨rfl, rfl⟩ hl.1 rfl (qz_b rfl) dL_law_1576 hcs (c_X3_gap h1) (fun H locs hM => ?_)
  refine lv_pop hx hb dL_law_1579 rfl ?_
  refine lv_aload_n hx hb dL_law_1580 rfl (lv_at hl 3 rfl) ?_
  refine lv_aload_n hx hb dL_law_1581 rfl (lv_at hl 1 rfl) ?_
  refine lv_iload_n hx hb dL_law_1582 rfl (lv_at hl 0 rfl) ?_
  refine lv_iconst (v := 1) hx hb dL_law_1583 (by decide) ?_
  refine lv_iadd hx hb dL_law_1584 ?_
  refine va_sld hx hb hX hbl hbA hM.2 (hin 1 (by decide)) dL_law_1585 ?_
  refine lv_aload_n hx hb dL_law_1586 rfl (lv_at hl 1 rfl) ?_
  refine lv_iload_n hx hb dL_law_1587 rfl (lv_at hl 0 rfl) ?_
  refine lv_iconst (v := 2) hx hb dL_law_1588 (by decide) ?_
  refine lv_iadd hx hb dL_law_1589 ?_
  refine va_sld hx hb hX hbl hbA hM.2 (hin 2 (by decide)) dL_law_1590 ?_
  refine wl_callVi (As := [.int (xs (x3 + 1).toNatClampNeg), .int (xs (x3 + 2).toNatClampNeg)]) (rest := []) hx hb hml hts hown hK hM wt_rc_X4 cl_183 hl_X4_gap rfl ⟨qz_b rfl, qz_b rfl⟩ ⟨rfl, rfl⟩ hl.1 rfl (qz_b rfl) dL_law_1591 hcs (c_X4_gap h2) (fun H locs hM => ?_)
  refine lv_pop hx hb dL_law_1594 rfl ?_
  refine lv_goto (tgt := 1947) hx hb dL_law_1595 (by decide) ?_
  exact kk _ _ _ _ hI hM hl
set_option maxHeartbeats 4000000 in
set_option maxRecDepth 100000 in
theorem lw_case_41 {I : Mem → Prop} {F : Nat} (hok : wl_ok_41 I F) (hI : I σ) (C : wl_C p s m meth c b L xs D tI tII B) (hcs : cells ≤ room_1.cells ∧ slots ≤ room_1.slots) (hin : ∀ j : Int32, 0 ≤ j ∧ j ≤ 5 → vp_in (x3 + j) L) (hM : wt_St D tI tII B σ s H locs) (hl : lv_has ls 4 [(3, .int x3), (0, .ref b), (1, .ref (B + 0)), (2, .ref (B + 101))]) (kk : ∀ (σ2 : Mem) (H : Heap) (locs : List Loc) (ls : Array Slot), I σ2 → wt_St D tI tII B σ2 s H locs → lv_has ls 4 [(3, .int x3), (0, .ref b), (1, .ref (B + 0)), (2, .ref (B + 101))] → W p l e room_1 s m #[Value.ref b] below meth c H locs cells slots Q (F0 m 1947 ls [])) : W p l e room_1 s m #[Value.ref b] below meth c H locs cells slots Q (F0 m 1598 ls []) := by
  obtain ⟨hx, hb, hts, hown, hml, hX, hbl, hbA, hK⟩ := C
  obtain ⟨r1, σ1, r2, σ2, h1, h2, hI⟩ := hok σ (xs (x3 + 1).toNatClampNeg) (xs (x3 + 2).toNatClampNeg) hI
  refine lv_aload_n hx hb dL_law_1598 rfl (lv_at hl 2 rfl) ?_
  refine lv_aload_n hx hb dL_law_1599 rfl (lv_at hl 1 rfl) ?_
  refine lv_iload_n hx hb dL_law_1600 rfl (lv_at hl 0 rfl) ?_
  refine lv_iconst (v := 1) hx hb dL_law_1601 (by decide) ?_
  refine lv_iadd hx hb dL_law_1602 ?_
  refine va_sld hx hb hX hbl hbA hM.2 (hin 1 (by decide)) dL_law_1603 ?_
  refine lv_aload_n hx hb dL_law_1604 rfl (lv_at hl 1 rfl) ?_
  refine lv_iload_n hx hb dL_law_1605 rfl (lv_at hl 0 rfl) ?_
  refine lv_iconst (v := 2) hx hb dL_law_1606 (by decide) ?_
  refine lv_iadd hx hb dL_law_1607 ?_
  refine va_sld hx hb hX hbl hbA hM.2 (hin 2 (by decide)) dL_law_1608 ?_
  refine wl_callVi (As := [.int (xs (x3 + 1).toNatClampNeg), .int (xs (x3 + 2).toNatClampNeg)]) (rest := []) hx hb hml hts hown hK hM wt_rc_X3 cl_184 hl_X3_wasted rfl ⟨qz_b rfl, qz_b rfl⟩ ⟨rfl, rfl⟩ hl.1 rfl (qz_b rfl) dL_law_1609 hcs (c_X3_wasted h1) (fun H locs hM => ?_)
  refine lv_pop hx hb dL_law_1612 rfl ?_
  refine lv_aload_n hx hb dL_law_1613 rfl (lv_at hl 3 rfl) ?_
  refine lv_aload_n hx hb dL_law_1614 rfl (lv_at hl 1 rfl) ?_
  refine lv_iload_n hx hb dL_law_1615 rfl (lv_at hl 0 rfl) ?_
  refine lv_iconst (v := 1) hx hb dL_law_1616 (by decide) ?_
  refine lv_iadd hx hb dL_law_1617 ?_
  refine va_sld hx hb hX hbl hbA hM.2 (hin 1 (by decide)) dL_law_1618 ?_
  refine lv_aload_n hx hb dL_law_1619 rfl (lv_at hl 1 rfl) ?_
  refine lv_iload_n hx hb dL_law_1620 rfl (lv_at hl 0 rfl) ?_
  refine lv_iconst (v := 2) hx hb dL_law_1621 (by decide) ?_
  refine lv_iadd hx hb dL_law_1622 ?_
  refine va_sld hx hb hX hbl hbA hM.2 (hin 2 (by decide)) dL_law_1623 ?_
  refine wl_callVi (As := [.int (xs (x3 + 1).toNatClampNeg), .int (xs (x3 + 2).toNatClampNeg)]) (rest := []) hx hb hml hts hown hK hM wt_rc_X4 cl_187 hl_X4_wasted rfl ⟨qz_b rfl, qz_b rfl⟩ ⟨rfl, rfl⟩ hl.1 rfl (qz_b rfl) dL_law_1624 hcs (c_X4_wasted h2) (fun H locs hM => ?_)
  refine lv_pop hx hb dL_law_1627 rfl ?_
  refine lv_goto (tgt := 1947) hx hb dL_law_1628 (by decide) ?_
  exact kk _ _ _ _ hI hM hl
set_option maxHeartbeats 4000000 in
set_option maxRecDepth 100000 in
theorem lw_case_42 {I : Mem → Prop} {F : Nat} (hok : wl_ok_42 I F) (hI : I σ) (C : wl_C p s m meth c b L xs D tI tII B) (hcs : cells ≤ room_1.cells ∧ slots ≤ room_1.slots) (hin : ∀ j : Int32, 0 ≤ j ∧ j ≤ 5 → vp_in (x3 + j) L) (hM : wt_St D tI tII B σ s H locs) (hl : lv_has ls 4 [(3, .int x3), (0, .ref b), (1, .ref (B + 0)), (2, .ref (B + 101))]) (kk : ∀ (σ2 : Mem) (H : Heap) (locs : List Loc) (ls : Array Slot), I σ2 → wt_St D tI tII B σ2 s H locs → lv_has ls 4 [(3, .int x3), (0, .ref b), (1, .ref (B + 0)), (2, .ref (B + 101))] → W p l e room_1 s m #[Value.ref b] below meth c H locs cells slots Q (F0 m 1947 ls [])) : W p l e room_1 s m #[Value.ref b] below meth c H locs cells slots Q (F0 m 1631 ls []) := by
  obtain ⟨hx, hb, hts, hown, hml, hX, hbl, hbA, hK⟩ := C
  obtain ⟨r1, σ1, r2, σ2, h1, h2, hI⟩ := hok σ (xs (x3 + 1).toNatClampNeg) (xs (x3 + 2).toNatClampNeg) hI
  refine lv_aload_n hx hb dL_law_1631 rfl (lv_at hl 2 rfl) ?_
  refine lv_aload_n hx hb dL_law_1632 rfl (lv_at hl 1 rfl) ?_
  refine lv_iload_n hx hb dL_law_1633 rfl (lv_at hl 0 rfl) ?_
  refine lv_iconst (v := 1) hx hb dL_law_1634 (by decide) ?_
  refine lv_iadd hx hb dL_law_1635 ?_
  refine va_sld hx hb hX hbl hbA hM.2 (hin 1 (by decide)) dL_law_1636 ?_
  refine lv_aload_n hx hb dL_law_1637 rfl (lv_at hl 1 rfl) ?_
  refine lv_iload_n hx hb dL_law_1638 rfl (lv_at hl 0 rfl) ?_
  refine lv_iconst (v := 2) hx hb dL_law_1639 (by decide) ?_
  refine lv_iadd hx hb dL_law_1640 ?_
  refine va_sld hx hb hX hbl hbA hM.2 (hin 2 (by decide)) dL_law_1641 ?_
  refine wl_callVi (As := [.int (xs (x3 + 1).toNatClampNeg), .int (xs (x3 + 2).toNatClampNeg)]) (rest := []) hx hb hml hts hown hK hM wt_rc_X3 cl_188 hl_X3_ahead rfl ⟨qz_b rfl, qz_b rfl⟩ ⟨rfl, rfl⟩ hl.1 rfl (qz_b rfl) dL_law_1642 hcs (c_X3_ahead h1) (fun H locs hM => ?_)
  refine lv_pop hx hb dL_law_1645 rfl ?_
  refine lv_aload_n hx hb dL_law_1646 rfl (lv_at hl 3 rfl) ?_
  refine lv_aload_n hx hb dL_law_1647 rfl (lv_at hl 1 rfl) ?_
  refine lv_iload_n hx hb dL_law_1648 rfl (lv_at hl 0 rfl) ?_
  refine lv_iconst (v := 1) hx hb dL_law_1649 (by decide) ?_
  refine lv_iadd hx hb dL_law_1650 ?_
  refine va_sld hx hb hX hbl hbA hM.2 (hin 1 (by decide)) dL_law_1651 ?_
  refine lv_aload_n hx hb dL_law_1652 rfl (lv_at hl 1 rfl) ?_
  refine lv_iload_n hx hb dL_law_1653 rfl (lv_at hl 0 rfl) ?_
  refine lv_iconst (v := 2) hx hb dL_law_1654 (by decide) ?_
  refine lv_iadd hx hb dL_law_1655 ?_
  refine va_sld hx hb hX hbl hbA hM.2 (hin 2 (by decide)) dL_law_1656 ?_
  refine wl_callVi (As := [.int (xs (x3 + 1).toNatClampNeg), .int (xs (x3 + 2).toNatClampNeg)]) (rest := []) hx hb hml hts hown hK hM wt_rc_X4 cl_191 hl_X4_ahead rfl ⟨qz_b rfl, qz_b rfl⟩ ⟨rfl, rfl⟩ hl.1 rfl (qz_b rfl) dL_law_1657 hcs (c_X4_ahead h2) (fun H locs hM => ?_)
  refine lv_pop hx hb dL_law_1660 rfl ?_
  refine lv_goto (tgt := 1947) hx hb dL_law_1661 (by decide) ?_
  exact kk _ _ _ _ hI hM hl
set_option maxHeartbeats 4000000 in
set_option maxRecDepth 100000 in
theorem lw_case_43 {I : Mem → Prop} {F : Nat} (hok : wl_ok_43 I F) (hI : I σ) (C : wl_C p s m meth c b L xs D tI tII B) (hcs : cells ≤ room_1.cells ∧ slots ≤ room_1.slots) (hin : ∀ j : Int32, 0 ≤ j ∧ j ≤ 5 → vp_in (x3 + j) L) (hM : wt_St D tI tII B σ s H locs) (hl : lv_has ls 4 [(3, .int x3), (0, .ref b), (1, .ref (B + 0)), (2, .ref (B + 101))]) (kk : ∀ (σ2 : Mem) (H : Heap) (locs : List Loc) (ls : Array Slot), I σ2 → wt_St D tI tII B σ2 s H locs → lv_has ls 4 [(3, .int x3), (0, .ref b), (1, .ref (B + 0)), (2, .ref (B + 101))] → W p l e room_1 s m #[Value.ref b] below meth c H locs cells slots Q (F0 m 1947 ls [])) : W p l e room_1 s m #[Value.ref b] below meth c H locs cells slots Q (F0 m 1664 ls []) := by
  obtain ⟨hx, hb, hts, hown, hml, hX, hbl, hbA, hK⟩ := C
  obtain ⟨r1, σ1, r2, σ2, h1, h2, hI⟩ := hok σ (xs (x3 + 1).toNatClampNeg) (xs (x3 + 2).toNatClampNeg) hI
  refine lv_aload_n hx hb dL_law_1664 rfl (lv_at hl 2 rfl) ?_
  refine lv_aload_n hx hb dL_law_1665 rfl (lv_at hl 1 rfl) ?_
  refine lv_iload_n hx hb dL_law_1666 rfl (lv_at hl 0 rfl) ?_
  refine lv_iconst (v := 1) hx hb dL_law_1667 (by decide) ?_
  refine lv_iadd hx hb dL_law_1668 ?_
  refine va_sld hx hb hX hbl hbA hM.2 (hin 1 (by decide)) dL_law_1669 ?_
  refine lv_aload_n hx hb dL_law_1670 rfl (lv_at hl 1 rfl) ?_
  refine lv_iload_n hx hb dL_law_1671 rfl (lv_at hl 0 rfl) ?_
  refine lv_iconst (v := 2) hx hb dL_law_1672 (by decide) ?_
  refine lv_iadd hx hb dL_law_1673 ?_
  refine va_sld hx hb hX hbl hbA hM.2 (hin 2 (by decide)) dL_law_1674 ?_
  refine wl_callVi (As := [.int (xs (x3 + 1).toNatClampNeg), .int (xs (x3 + 2).toNatClampNeg)]) (rest := []) hx hb hml hts hown hK hM wt_rc_X3 cl_192 hl_X3_bestLaw rfl ⟨qz_b rfl, qz_b rfl⟩ ⟨rfl, rfl⟩ hl.1 rfl (qz_b rfl) dL_law_1675 hcs (c_X3_bestLaw h1) (fun H locs hM => ?_)
  refine lv_pop hx hb dL_law_1678 rfl ?_
  refine lv_aload_n hx hb dL_law_1679 rfl (lv_at hl 3 rfl) ?_
  refine lv_aload_n hx hb dL_law_1680 rfl (lv_at hl 1 rfl) ?_
  refine lv_iload_n hx hb dL_law_1681 rfl (lv_at hl 0 rfl) ?_
  refine lv_iconst (v := 1) hx hb dL_law_1682 (by decide) ?_
  refine lv_iadd hx hb dL_law_1683 ?_
  refine va_sld hx hb hX hbl hbA hM.2 (hin 1 (by decide)) dL_law_1684 ?_
  refine lv_aload_n hx hb dL_law_1685 rfl (lv_at hl 1 rfl) ?_
  refine lv_iload_n hx hb dL_law_1686 rfl (lv_at hl 0 rfl) ?_
  refine lv_iconst (v := 2) hx hb dL_law_1687 (by decide) ?_
  refine lv_iadd hx hb dL_law_1688 ?_
  refine va_sld hx hb hX hbl hbA hM.2 (hin 2 (by decide)) dL_law_1689 ?_
  refine wl_callVi (As := [.int (xs (x3 + 1).toNatClampNeg), .int (xs (x3 + 2).toNatClampNeg)]) (rest := []) hx hb hml hts hown hK hM wt_rc_X4 cl_195 hl_X4_bestLaw rfl ⟨qz_b rfl, qz_b rfl⟩ ⟨rfl, rfl⟩ hl.1 rfl (qz_b rfl) dL_law_1690 hcs (c_X4_bestLaw h2) (fun H locs hM => ?_)
  refine lv_pop hx hb dL_law_1693 rfl ?_
  refine lv_goto (tgt := 1947) hx hb dL_law_1694 (by decide) ?_
  exact kk _ _ _ _ hI hM hl
set_option maxHeartbeats 4000000 in
set_option maxRecDepth 100000 in
theorem lw_case_44 {I : Mem → Prop} {F : Nat} (hok : wl_ok_44 I F) (hI : I σ) (C : wl_C p s m meth c b L xs D tI tII B) (hcs : cells ≤ room_1.cells ∧ slots ≤ room_1.slots) (hin : ∀ j : Int32, 0 ≤ j ∧ j ≤ 5 → vp_in (x3 + j) L) (hM : wt_St D tI tII B σ s H locs) (hl : lv_has ls 4 [(3, .int x3), (0, .ref b), (1, .ref (B + 0)), (2, .ref (B + 101))]) (kk : ∀ (σ2 : Mem) (H : Heap) (locs : List Loc) (ls : Array Slot), I σ2 → wt_St D tI tII B σ2 s H locs → lv_has ls 4 [(3, .int x3), (0, .ref b), (1, .ref (B + 0)), (2, .ref (B + 101))] → W p l e room_1 s m #[Value.ref b] below meth c H locs cells slots Q (F0 m 1947 ls [])) : W p l e room_1 s m #[Value.ref b] below meth c H locs cells slots Q (F0 m 1697 ls []) := by
  obtain ⟨hx, hb, hts, hown, hml, hX, hbl, hbA, hK⟩ := C
  obtain ⟨r1, σ1, r2, σ2, h1, h2, hI⟩ := hok σ (xs (x3 + 1).toNatClampNeg) (xs (x3 + 2).toNatClampNeg) (xs (x3 + 3).toNatClampNeg) hI
  refine lv_aload_n hx hb dL_law_1697 rfl (lv_at hl 2 rfl) ?_
  refine lv_aload_n hx hb dL_law_1698 rfl (lv_at hl 1 rfl) ?_
  refine lv_iload_n hx hb dL_law_1699 rfl (lv_at hl 0 rfl) ?_
  refine lv_iconst (v := 1) hx hb dL_law_1700 (by decide) ?_
  refine lv_iadd hx hb dL_law_1701 ?_
  refine va_sld hx hb hX hbl hbA hM.2 (hin 1 (by decide)) dL_law_1702 ?_
  refine lv_aload_n hx hb dL_law_1703 rfl (lv_at hl 1 rfl) ?_
  refine lv_iload_n hx hb dL_law_1704 rfl (lv_at hl 0 rfl) ?_
  refine lv_iconst (v := 2) hx hb dL_law_1705 (by decide) ?_
  refine lv_iadd hx hb dL_law_1706 ?_
  refine va_sld hx hb hX hbl hbA hM.2 (hin 2 (by decide)) dL_law_1707 ?_
  refine lv_aload_n hx hb dL_law_1708 rfl (lv_at hl 1 rfl) ?_
  refine lv_iload_n hx hb dL_law_1709 rfl (lv_at hl 0 rfl) ?_
  refine lv_iconst (v := 3) hx hb dL_law_1710 (by decide) ?_
  refine lv_iadd hx hb dL_law_1711 ?_
  refine va_sld hx hb hX hbl hbA hM.2 (hin 3 (by decide)) dL_law_1712 ?_
  refine wl_callVi (As := [.int (xs (x3 + 1).toNatClampNeg), .int (xs (x3 + 2).toNatClampNeg), .int (xs (x3 + 3).toNatClampNeg)]) (rest := []) hx hb hml hts hown hK hM wt_rc_X3 cl_196 hl_X3_newcomer rfl ⟨qz_b rfl, qz_b rfl⟩ ⟨rfl, rfl⟩ hl.1 rfl (qz_b rfl) dL_law_1713 hcs (c_X3_newcomer h1) (fun H locs hM => ?_)
  refine lv_pop hx hb dL_law_1716 rfl ?_
  refine lv_aload_n hx hb dL_law_1717 rfl (lv_at hl 3 rfl) ?_
  refine lv_aload_n hx hb dL_law_1718 rfl (lv_at hl 1 rfl) ?_
  refine lv_iload_n hx hb dL_law_1719 rfl (lv_at hl 0 rfl) ?_
  refine lv_iconst (v := 1) hx hb dL_law_1720 (by decide) ?_
  refine lv_iadd hx hb dL_law_1721 ?_
  refine va_sld hx hb hX hbl hbA hM.2 (hin 1 (by decide)) dL_law_1722 ?_
  refine lv_aload_n hx hb dL_law_1723 rfl (lv_at hl 1 rfl) ?_
  refine lv_iload_n hx hb dL_law_1724 rfl (lv_at hl 0 rfl) ?_
  refine lv_iconst (v := 2) hx hb dL_law_1725 (by decide) ?_
  refine lv_iadd hx hb dL_law_1726 ?_
  refine va_sld hx hb hX hbl hbA hM.2 (hin 2 (by decide)) dL_law_1727 ?_
  refine lv_aload_n hx hb dL_law_1728 rfl (lv_at hl 1 rfl) ?_
  refine lv_iload_n hx hb dL_law_1729 rfl (lv_at hl 0 rfl) ?_
  refine lv_iconst (v := 3) hx hb dL_law_1730 (by decide) ?_
  refine lv_iadd hx hb dL_law_1731 ?_
  refine va_sld hx hb hX hbl hbA hM.2 (hin 3 (by decide)) dL_law_1732 ?_
  refine wl_callVi (As := [.int (xs (x3 + 1).toNatClampNeg), .int (xs (x3 + 2).toNatClampNeg), .int (xs (x3 + 3).toNatClampNeg)]) (rest := []) hx hb hml hts hown hK hM wt_rc_X4 cl_199 hl_X4_newcomer rfl ⟨qz_b rfl, qz_b rfl⟩ ⟨rfl, rfl⟩ hl.1 rfl (qz_b rfl) dL_law_1733 hcs (c_X4_newcomer h2) (fun H locs hM => ?_)
  refine lv_pop hx hb dL_law_1736 rfl ?_
  refine lv_goto (tgt := 1947) hx hb dL_law_1737 (by decide) ?_
  exact kk _ _ _ _ hI hM hl
set_option maxHeartbeats 4000000 in
set_option maxRecDepth 100000 in
theorem lw_case_45 {I : Mem → Prop} {F : Nat} (hok : wl_ok_45 I F) (hI : I σ) (C : wl_C p s m meth c b L xs D tI tII B) (hcs : cells ≤ room_1.cells ∧ slots ≤ room_1.slots) (hin : ∀ j : Int32, 0 ≤ j ∧ j ≤ 5 → vp_in (x3 + j) L) (hM : wt_St D tI tII B σ s H locs) (hl : lv_has ls 4 [(3, .int x3), (0, .ref b), (1, .ref (B + 0)), (2, .ref (B + 101))]) (kk : ∀ (σ2 : Mem) (H : Heap) (locs : List Loc) (ls : Array Slot), I σ2 → wt_St D tI tII B σ2 s H locs → lv_has ls 4 [(3, .int x3), (0, .ref b), (1, .ref (B + 0)), (2, .ref (B + 101))] → W p l e room_1 s m #[Value.ref b] below meth c H locs cells slots Q (F0 m 1947 ls [])) : W p l e room_1 s m #[Value.ref b] below meth c H locs cells slots Q (F0 m 1740 ls []) := by
  obtain ⟨hx, hb, hts, hown, hml, hX, hbl, hbA, hK⟩ := C
  obtain ⟨r1, σ1, r2, σ2, h1, h2, hI⟩ := hok σ (xs (x3 + 1).toNatClampNeg) hI
  refine lv_aload_n hx hb dL_law_1740 rfl (lv_at hl 2 rfl) ?_
  refine lv_aload_n hx hb dL_law_1741 rfl (lv_at hl 1 rfl) ?_
  refine lv_iload_n hx hb dL_law_1742 rfl (lv_at hl 0 rfl) ?_
  refine lv_iconst (v := 1) hx hb dL_law_1743 (by decide) ?_
  refine lv_iadd hx hb dL_law_1744 ?_
  refine va_sld hx hb hX hbl hbA hM.2 (hin 1 (by decide)) dL_law_1745 ?_
  refine wl_callVi (As := [.int (xs (x3 + 1).toNatClampNeg)]) (rest := []) hx hb hml hts hown hK hM wt_rc_X3 cl_200 hl_X3_mostSeen rfl ⟨qz_b rfl, qz_b rfl⟩ ⟨rfl, rfl⟩ hl.1 rfl (qz_b rfl) dL_law_1746 hcs (c_X3_mostSeen h1) (fun H locs hM => ?_)
  refine lv_pop hx hb dL_law_1749 rfl ?_
  refine lv_aload_n hx hb dL_law_1750 rfl (lv_at hl 3 rfl) ?_
  refine lv_aload_n hx hb dL_law_1751 rfl (lv_at hl 1 rfl) ?_
  refine lv_iload_n hx hb dL_law_1752 rfl (lv_at hl 0 rfl) ?_
  refine lv_iconst (v := 1) hx hb dL_law_1753 (by decide) ?_
  refine lv_iadd hx hb dL_law_1754 ?_
  refine va_sld hx hb hX hbl hbA hM.2 (hin 1 (by decide)) dL_law_1755 ?_
  refine wl_callVi (As := [.int (xs (x3 + 1).toNatClampNeg)]) (rest := []) hx hb hml hts hown hK hM wt_rc_X4 cl_203 hl_X4_mostSeen rfl ⟨qz_b rfl, qz_b rfl⟩ ⟨rfl, rfl⟩ hl.1 rfl (qz_b rfl) dL_law_1756 hcs (c_X4_mostSeen h2) (fun H locs hM => ?_)
  refine lv_pop hx hb dL_law_1759 rfl ?_
  refine lv_goto (tgt := 1947) hx hb dL_law_1760 (by decide) ?_
  exact kk _ _ _ _ hI hM hl
set_option maxHeartbeats 4000000 in
set_option maxRecDepth 100000 in
theorem lw_case_46 {I : Mem → Prop} {F : Nat} (hok : wl_ok_46 I F) (hI : I σ) (C : wl_C p s m meth c b L xs D tI tII B) (hcs : cells ≤ room_1.cells ∧ slots ≤ room_1.slots) (hin : ∀ j : Int32, 0 ≤ j ∧ j ≤ 5 → vp_in (x3 + j) L) (hM : wt_St D tI tII B σ s H locs) (hl : lv_has ls 4 [(3, .int x3), (0, .ref b), (1, .ref (B + 0)), (2, .ref (B + 101))]) (kk : ∀ (σ2 : Mem) (H : Heap) (locs : List Loc) (ls : Array Slot), I σ2 → wt_St D tI tII B σ2 s H locs → lv_has ls 4 [(3, .int x3), (0, .ref b), (1, .ref (B + 0)), (2, .ref (B + 101))] → W p l e room_1 s m #[Value.ref b] below meth c H locs cells slots Q (F0 m 1947 ls [])) : W p l e room_1 s m #[Value.ref b] below meth c H locs cells slots Q (F0 m 1763 ls []) := by
  obtain ⟨hx, hb, hts, hown, hml, hX, hbl, hbA, hK⟩ := C
  obtain ⟨r1, σ1, r2, σ2, h1, h2, hI⟩ := hok σ (xs (x3 + 1).toNatClampNeg) (xs (x3 + 2).toNatClampNeg) hI
  refine lv_aload_n hx hb dL_law_1763 rfl (lv_at hl 2 rfl) ?_
  refine lv_aload_n hx hb dL_law_1764 rfl (lv_at hl 1 rfl) ?_
  refine lv_iload_n hx hb dL_law_1765 rfl (lv_at hl 0 rfl) ?_
  refine lv_iconst (v := 1) hx hb dL_law_1766 (by decide) ?_
  refine lv_iadd hx hb dL_law_1767 ?_
  refine va_sld hx hb hX hbl hbA hM.2 (hin 1 (by decide)) dL_law_1768 ?_
  refine lv_aload_n hx hb dL_law_1769 rfl (lv_at hl 1 rfl) ?_
  refine lv_iload_n hx hb dL_law_1770 rfl (lv_at hl 0 rfl) ?_
  refine lv_iconst (v := 2) hx hb dL_law_1771 (by decide) ?_
  refine lv_iadd hx hb dL_law_1772 ?_
  refine va_sld hx hb hX hbl hbA hM.2 (hin 2 (by decide)) dL_law_1773 ?_
  refine wl_callVi (As := [.int (xs (x3 + 1).toNatClampNeg), .int (xs (x3 + 2).toNatClampNeg)]) (rest := []) hx hb hml hts hown hK hM wt_rc_X3 cl_204 hl_X3_duels rfl ⟨qz_b rfl, qz_b rfl⟩ ⟨rfl, rfl⟩ hl.1 rfl (qz_b rfl) dL_law_1774 hcs (c_X3_duels h1) (fun H locs hM => ?_)
  refine lv_pop hx hb dL_law_1777 rfl ?_
  refine lv_aload_n hx hb dL_law_1778 rfl (lv_at hl 3 rfl) ?_
  refine lv_aload_n hx hb dL_law_1779 rfl (lv_at hl 1 rfl) ?_
  refine lv_iload_n hx hb dL_law_1780 rfl (lv_at hl 0 rfl) ?_
  refine lv_iconst (v := 1) hx hb dL_law_1781 (by decide) ?_
  refine lv_iadd hx hb dL_law_1782 ?_
  refine va_sld hx hb hX hbl hbA hM.2 (hin 1 (by decide)) dL_law_1783 ?_
  refine lv_aload_n hx hb dL_law_1784 rfl (lv_at hl 1 rfl) ?_
  refine lv_iload_n hx hb dL_law_1785 rfl (lv_at hl 0 rfl) ?_
  refine lv_iconst (v := 2) hx hb dL_law_1786 (by decide) ?_
  refine lv_iadd hx hb dL_law_1787 ?_
  refine va_sld hx hb hX hbl hbA hM.2 (hin 2 (by decide)) dL_law_1788 ?_
  refine wl_callVi (As := [.int (xs (x3 + 1).toNatClampNeg), .int (xs (x3 + 2).toNatClampNeg)]) (rest := []) hx hb hml hts hown hK hM wt_rc_X4 cl_207 hl_X4_duels rfl ⟨qz_b rfl, qz_b rfl⟩ ⟨rfl, rfl⟩ hl.1 rfl (qz_b rfl) dL_law_1789 hcs (c_X4_duels h2) (fun H locs hM => ?_)
  refine lv_pop hx hb dL_law_1792 rfl ?_
  refine lv_goto (tgt := 1947) hx hb dL_law_1793 (by decide) ?_
  exact kk _ _ _ _ hI hM hl
set_option maxHeartbeats 4000000 in
set_option maxRecDepth 100000 in
theorem lw_case_47 {I : Mem → Prop} {F : Nat} (hok : wl_ok_47 I F) (hI : I σ) (C : wl_C p s m meth c b L xs D tI tII B) (hcs : cells ≤ room_1.cells ∧ slots ≤ room_1.slots) (hin : ∀ j : Int32, 0 ≤ j ∧ j ≤ 5 → vp_in (x3 + j) L) (hM : wt_St D tI tII B σ s H locs) (hl : lv_has ls 4 [(3, .int x3), (0, .ref b), (1, .ref (B + 0)), (2, .ref (B + 101))]) (kk : ∀ (σ2 : Mem) (H : Heap) (locs : List Loc) (ls : Array Slot), I σ2 → wt_St D tI tII B σ2 s H locs → lv_has ls 4 [(3, .int x3), (0, .ref b), (1, .ref (B + 0)), (2, .ref (B + 101))] → W p l e room_1 s m #[Value.ref b] below meth c H locs cells slots Q (F0 m 1947 ls [])) : W p l e room_1 s m #[Value.ref b] below meth c H locs cells slots Q (F0 m 1796 ls []) := by
  obtain ⟨hx, hb, hts, hown, hml, hX, hbl, hbA, hK⟩ := C
  obtain ⟨r1, σ1, r2, σ2, h1, h2, hI⟩ := hok σ (xs (x3 + 1).toNatClampNeg) hI
  refine lv_aload_n hx hb dL_law_1796 rfl (lv_at hl 2 rfl) ?_
  refine lv_aload_n hx hb dL_law_1797 rfl (lv_at hl 1 rfl) ?_
  refine lv_iload_n hx hb dL_law_1798 rfl (lv_at hl 0 rfl) ?_
  refine lv_iconst (v := 1) hx hb dL_law_1799 (by decide) ?_
  refine lv_iadd hx hb dL_law_1800 ?_
  refine va_sld hx hb hX hbl hbA hM.2 (hin 1 (by decide)) dL_law_1801 ?_
  refine wl_callVi (As := [.int (xs (x3 + 1).toNatClampNeg)]) (rest := []) hx hb hml hts hown hK hM wt_rc_X3 cl_208 hl_X3_row rfl ⟨qz_b rfl, qz_b rfl⟩ ⟨rfl, rfl⟩ hl.1 rfl (qz_b rfl) dL_law_1802 hcs (c_X3_row h1) (fun H locs hM => ?_)
  refine lv_pop hx hb dL_law_1805 rfl ?_
  refine lv_aload_n hx hb dL_law_1806 rfl (lv_at hl 3 rfl) ?_
  refine lv_aload_n hx hb dL_law_1807 rfl (lv_at hl 1 rfl) ?_
  refine lv_iload_n hx hb dL_law_1808 rfl (lv_at hl 0 rfl) ?_
  refine lv_iconst (v := 1) hx hb dL_law_1809 (by decide) ?_
  refine lv_iadd hx hb dL_law_1810 ?_
  refine va_sld hx hb hX hbl hbA hM.2 (hin 1 (by decide)) dL_law_1811 ?_
  refine wl_callVi (As := [.int (xs (x3 + 1).toNatClampNeg)]) (rest := []) hx hb hml hts hown hK hM wt_rc_X4 cl_211 hl_X4_row rfl ⟨qz_b rfl, qz_b rfl⟩ ⟨rfl, rfl⟩ hl.1 rfl (qz_b rfl) dL_law_1812 hcs (c_X4_row h2) (fun H locs hM => ?_)
  refine lv_pop hx hb dL_law_1815 rfl ?_
  refine lv_goto (tgt := 1947) hx hb dL_law_1816 (by decide) ?_
  exact kk _ _ _ _ hI hM hl
set_option maxHeartbeats 4000000 in
set_option maxRecDepth 100000 in
theorem lw_case_48 {I : Mem → Prop} {F : Nat} (hok : wl_ok_48 I F) (hI : I σ) (C : wl_C p s m meth c b L xs D tI tII B) (hcs : cells ≤ room_1.cells ∧ slots ≤ room_1.slots) (hin : ∀ j : Int32, 0 ≤ j ∧ j ≤ 5 → vp_in (x3 + j) L) (hM : wt_St D tI tII B σ s H locs) (hl : lv_has ls 4 [(3, .int x3), (0, .ref b), (1, .ref (B + 0)), (2, .ref (B + 101))]) (kk : ∀ (σ2 : Mem) (H : Heap) (locs : List Loc) (ls : Array Slot), I σ2 → wt_St D tI tII B σ2 s H locs → lv_has ls 4 [(3, .int x3), (0, .ref b), (1, .ref (B + 0)), (2, .ref (B + 101))] → W p l e room_1 s m #[Value.ref b] below meth c H locs cells slots Q (F0 m 1947 ls [])) : W p l e room_1 s m #[Value.ref b] below meth c H locs cells slots Q (F0 m 1819 ls []) := by
  obtain ⟨hx, hb, hts, hown, hml, hX, hbl, hbA, hK⟩ := C
  obtain ⟨r1, σ1, r2, σ2, h1, h2, hI⟩ := hok σ (xs (x3 + 1).toNatClampNeg) hI
  refine lv_aload_n hx hb dL_law_1819 rfl (lv_at hl 2 rfl) ?_
  refine lv_aload_n hx hb dL_law_1820 rfl (lv_at hl 1 rfl) ?_
  refine lv_iload_n hx hb dL_law_1821 rfl (lv_at hl 0 rfl) ?_
  refine lv_iconst (v := 1) hx hb dL_law_1822 (by decide) ?_
  refine lv_iadd hx hb dL_law_1823 ?_
  refine va_sld hx hb hX hbl hbA hM.2 (hin 1 (by decide)) dL_law_1824 ?_
  refine wl_callVi (As := [.int (xs (x3 + 1).toNatClampNeg)]) (rest := []) hx hb hml hts hown hK hM wt_rc_X3 cl_212 hl_X3_judge rfl ⟨qz_b rfl, qz_b rfl⟩ ⟨rfl, rfl⟩ hl.1 rfl (qz_b rfl) dL_law_1825 hcs (c_X3_judge h1) (fun H locs hM => ?_)
  refine lv_pop hx hb dL_law_1828 rfl ?_
  refine lv_aload_n hx hb dL_law_1829 rfl (lv_at hl 3 rfl) ?_
  refine lv_aload_n hx hb dL_law_1830 rfl (lv_at hl 1 rfl) ?_
  refine lv_iload_n hx hb dL_law_1831 rfl (lv_at hl 0 rfl) ?_
  refine lv_iconst (v := 1) hx hb dL_law_1832 (by decide) ?_
  refine lv_iadd hx hb dL_law_1833 ?_
  refine va_sld hx hb hX hbl hbA hM.2 (hin 1 (by decide)) dL_law_1834 ?_
  refine wl_callVi (As := [.int (xs (x3 + 1).toNatClampNeg)]) (rest := []) hx hb hml hts hown hK hM wt_rc_X4 cl_215 hl_X4_judge rfl ⟨qz_b rfl, qz_b rfl⟩ ⟨rfl, rfl⟩ hl.1 rfl (qz_b rfl) dL_law_1835 hcs (c_X4_judge h2) (fun H locs hM => ?_)
  refine lv_pop hx hb dL_law_1838 rfl ?_
  refine lv_goto (tgt := 1947) hx hb dL_law_1839 (by decide) ?_
  exact kk _ _ _ _ hI hM hl
set_option maxHeartbeats 4000000 in
set_option maxRecDepth 100000 in
theorem lw_case_49 {I : Mem → Prop} {F : Nat} (hok : wl_ok_49 I F) (hI : I σ) (C : wl_C p s m meth c b L xs D tI tII B) (hcs : cells ≤ room_1.cells ∧ slots ≤ room_1.slots) (hin : ∀ j : Int32, 0 ≤ j ∧ j ≤ 5 → vp_in (x3 + j) L) (hM : wt_St D tI tII B σ s H locs) (hl : lv_has ls 4 [(3, .int x3), (0, .ref b), (1, .ref (B + 0)), (2, .ref (B + 101))]) (kk : ∀ (σ2 : Mem) (H : Heap) (locs : List Loc) (ls : Array Slot), I σ2 → wt_St D tI tII B σ2 s H locs → lv_has ls 4 [(3, .int x3), (0, .ref b), (1, .ref (B + 0)), (2, .ref (B + 101))] → W p l e room_1 s m #[Value.ref b] below meth c H locs cells slots Q (F0 m 1947 ls [])) : W p l e room_1 s m #[Value.ref b] below meth c H locs cells slots Q (F0 m 1842 ls []) := by
  obtain ⟨hx, hb, hts, hown, hml, hX, hbl, hbA, hK⟩ := C
  obtain ⟨r1, σ1, r2, σ2, h1, h2, hI⟩ := hok σ hI
  refine lv_aload_n hx hb dL_law_1842 rfl (lv_at hl 2 rfl) ?_
  refine wl_callVi (As := []) (rest := []) hx hb hml hts hown hK hM wt_rc_X3 cl_216 hl_X3_clear rfl ⟨qz_b rfl, qz_b rfl⟩ ⟨rfl, rfl⟩ hl.1 rfl (qz_b rfl) dL_law_1843 hcs (c_X3_clear h1) (fun H locs hM => ?_)
  refine lv_pop hx hb dL_law_1846 rfl ?_
  refine lv_aload_n hx hb dL_law_1847 rfl (lv_at hl 3 rfl) ?_
  refine wl_callVi (As := []) (rest := []) hx hb hml hts hown hK hM wt_rc_X4 cl_219 hl_X4_clear rfl ⟨qz_b rfl, qz_b rfl⟩ ⟨rfl, rfl⟩ hl.1 rfl (qz_b rfl) dL_law_1848 hcs (c_X4_clear h2) (fun H locs hM => ?_)
  refine lv_pop hx hb dL_law_1851 rfl ?_
  refine lv_goto (tgt := 1947) hx hb dL_law_1852 (by decide) ?_
  exact kk _ _ _ _ hI hM hl
set_option maxHeartbeats 4000000 in
set_option maxRecDepth 100000 in
theorem lw_case_50 {I : Mem → Prop} {F : Nat} (hok : wl_ok_50 I F) (hI : I σ) (C : wl_C p s m meth c b L xs D tI tII B) (hcs : cells ≤ room_1.cells ∧ slots ≤ room_1.slots) (hin : ∀ j : Int32, 0 ≤ j ∧ j ≤ 5 → vp_in (x3 + j) L) (hM : wt_St D tI tII B σ s H locs) (hl : lv_has ls 4 [(3, .int x3), (0, .ref b), (1, .ref (B + 0)), (2, .ref (B + 101))]) (kk : ∀ (σ2 : Mem) (H : Heap) (locs : List Loc) (ls : Array Slot), I σ2 → wt_St D tI tII B σ2 s H locs → lv_has ls 4 [(3, .int x3), (0, .ref b), (1, .ref (B + 0)), (2, .ref (B + 101))] → W p l e room_1 s m #[Value.ref b] below meth c H locs cells slots Q (F0 m 1947 ls [])) : W p l e room_1 s m #[Value.ref b] below meth c H locs cells slots Q (F0 m 1855 ls []) := by
  obtain ⟨hx, hb, hts, hown, hml, hX, hbl, hbA, hK⟩ := C
  obtain ⟨r1, σ1, r2, σ2, h1, h2, hI⟩ := hok σ (xs (x3 + 1).toNatClampNeg) (xs (x3 + 2).toNatClampNeg) (xs (x3 + 3).toNatClampNeg) hI
  refine lv_aload_n hx hb dL_law_1855 rfl (lv_at hl 2 rfl) ?_
  refine lv_aload_n hx hb dL_law_1856 rfl (lv_at hl 1 rfl) ?_
  refine lv_iload_n hx hb dL_law_1857 rfl (lv_at hl 0 rfl) ?_
  refine lv_iconst (v := 1) hx hb dL_law_1858 (by decide) ?_
  refine lv_iadd hx hb dL_law_1859 ?_
  refine va_sld hx hb hX hbl hbA hM.2 (hin 1 (by decide)) dL_law_1860 ?_
  refine lv_aload_n hx hb dL_law_1861 rfl (lv_at hl 1 rfl) ?_
  refine lv_iload_n hx hb dL_law_1862 rfl (lv_at hl 0 rfl) ?_
  refine lv_iconst (v := 2) hx hb dL_law_1863 (by decide) ?_
  refine lv_iadd hx hb dL_law_1864 ?_
  refine va_sld hx hb hX hbl hbA hM.2 (hin 2 (by decide)) dL_law_1865 ?_
  refine lv_aload_n hx hb dL_law_1866 rfl (lv_at hl 1 rfl) ?_
  refine lv_iload_n hx hb dL_law_1867 rfl (lv_at hl 0 rfl) ?_
  refine lv_iconst (v := 3) hx hb dL_law_1868 (by decide) ?_
  refine lv_iadd hx hb dL_law_1869 ?_
  refine va_sld hx hb hX hbl hbA hM.2 (hin 3 (by decide)) dL_law_1870 ?_
  refine wl_callVi (As := [.int (xs (x3 + 1).toNatClampNeg), .int (xs (x3 + 2).toNatClampNeg), .int (xs (x3 + 3).toNatClampNeg)]) (rest := []) hx hb hml hts hown hK hM wt_rc_X3 cl_220 hl_X3_lots rfl ⟨qz_b rfl, qz_b rfl⟩ ⟨rfl, rfl⟩ hl.1 rfl (qz_b rfl) dL_law_1871 hcs (c_X3_lots h1) (fun H locs hM => ?_)
  refine lv_pop hx hb dL_law_1874 rfl ?_
  refine lv_aload_n hx hb dL_law_1875 rfl (lv_at hl 3 rfl) ?_
  refine lv_aload_n hx hb dL_law_1876 rfl (lv_at hl 1 rfl) ?_
  refine lv_iload_n hx hb dL_law_1877 rfl (lv_at hl 0 rfl) ?_
  refine lv_iconst (v := 1) hx hb dL_law_1878 (by decide) ?_
  refine lv_iadd hx hb dL_law_1879 ?_
  refine va_sld hx hb hX hbl hbA hM.2 (hin 1 (by decide)) dL_law_1880 ?_
  refine lv_aload_n hx hb dL_law_1881 rfl (lv_at hl 1 rfl) ?_
  refine lv_iload_n hx hb dL_law_1882 rfl (lv_at hl 0 rfl) ?_
  refine lv_iconst (v := 2) hx hb dL_law_1883 (by decide) ?_
  refine lv_iadd hx hb dL_law_1884 ?_
  refine va_sld hx hb hX hbl hbA hM.2 (hin 2 (by decide)) dL_law_1885 ?_
  refine lv_aload_n hx hb dL_law_1886 rfl (lv_at hl 1 rfl) ?_
  refine lv_iload_n hx hb dL_law_1887 rfl (lv_at hl 0 rfl) ?_
  refine lv_iconst (v := 3) hx hb dL_law_1888 (by decide) ?_
  refine lv_iadd hx hb dL_law_1889 ?_
  refine va_sld hx hb hX hbl hbA hM.2 (hin 3 (by decide)) dL_law_1890 ?_
  refine wl_callVi (As := [.int (xs (x3 + 1).toNatClampNeg), .int (xs (x3 + 2).toNatClampNeg), .int (xs (x3 + 3).toNatClampNeg)]) (rest := []) hx hb hml hts hown hK hM wt_rc_X4 cl_223 hl_X4_lots rfl ⟨qz_b rfl, qz_b rfl⟩ ⟨rfl, rfl⟩ hl.1 rfl (qz_b rfl) dL_law_1891 hcs (c_X4_lots h2) (fun H locs hM => ?_)
  refine lv_pop hx hb dL_law_1894 rfl ?_
  refine lv_goto (tgt := 1947) hx hb dL_law_1895 (by decide) ?_
  exact kk _ _ _ _ hI hM hl
set_option maxHeartbeats 4000000 in
set_option maxRecDepth 100000 in
theorem lw_case_51 {I : Mem → Prop} {F : Nat} (hok : wl_ok_51 I F) (hI : I σ) (C : wl_C p s m meth c b L xs D tI tII B) (hcs : cells ≤ room_1.cells ∧ slots ≤ room_1.slots) (hin : ∀ j : Int32, 0 ≤ j ∧ j ≤ 5 → vp_in (x3 + j) L) (hM : wt_St D tI tII B σ s H locs) (hl : lv_has ls 4 [(3, .int x3), (0, .ref b), (1, .ref (B + 0)), (2, .ref (B + 101))]) (kk : ∀ (σ2 : Mem) (H : Heap) (locs : List Loc) (ls : Array Slot), I σ2 → wt_St D tI tII B σ2 s H locs → lv_has ls 4 [(3, .int x3), (0, .ref b), (1, .ref (B + 0)), (2, .ref (B + 101))] → W p l e room_1 s m #[Value.ref b] below meth c H locs cells slots Q (F0 m 1947 ls [])) : W p l e room_1 s m #[Value.ref b] below meth c H locs cells slots Q (F0 m 1898 ls []) := by
  obtain ⟨hx, hb, hts, hown, hml, hX, hbl, hbA, hK⟩ := C
  obtain ⟨r1, σ1, r2, σ2, h1, h2, hI⟩ := hok σ hI
  refine lv_aload_n hx hb dL_law_1898 rfl (lv_at hl 2 rfl) ?_
  refine wl_callVi (As := []) (rest := []) hx hb hml hts hown hK hM wt_rc_X3 cl_224 hl_X3_image rfl ⟨qz_b rfl, qz_b rfl⟩ ⟨rfl, rfl⟩ hl.1 rfl (qz_b rfl) dL_law_1899 hcs (c_X3_image h1) (fun H locs hM => ?_)
  refine lv_pop hx hb dL_law_1902 rfl ?_
  refine lv_aload_n hx hb dL_law_1903 rfl (lv_at hl 3 rfl) ?_
  refine wl_callVi (As := []) (rest := []) hx hb hml hts hown hK hM wt_rc_X4 cl_227 hl_X4_image rfl ⟨qz_b rfl, qz_b rfl⟩ ⟨rfl, rfl⟩ hl.1 rfl (qz_b rfl) dL_law_1904 hcs (c_X4_image h2) (fun H locs hM => ?_)
  refine lv_pop hx hb dL_law_1907 rfl ?_
  refine lv_goto (tgt := 1947) hx hb dL_law_1908 (by decide) ?_
  exact kk _ _ _ _ hI hM hl
set_option maxHeartbeats 4000000 in
set_option maxRecDepth 100000 in
theorem lw_case_52 {I : Mem → Prop} {F : Nat} (hok : wl_ok_52 I F) (hI : I σ) (C : wl_C p s m meth c b L xs D tI tII B) (hcs : cells ≤ room_1.cells ∧ slots ≤ room_1.slots) (hin : ∀ j : Int32, 0 ≤ j ∧ j ≤ 5 → vp_in (x3 + j) L) (hM : wt_St D tI tII B σ s H locs) (hl : lv_has ls 4 [(3, .int x3), (0, .ref b), (1, .ref (B + 0)), (2, .ref (B + 101))]) (kk : ∀ (σ2 : Mem) (H : Heap) (locs : List Loc) (ls : Array Slot), I σ2 → wt_St D tI tII B σ2 s H locs → lv_has ls 4 [(3, .int x3), (0, .ref b), (1, .ref (B + 0)), (2, .ref (B + 101))] → W p l e room_1 s m #[Value.ref b] below meth c H locs cells slots Q (F0 m 1947 ls [])) : W p l e room_1 s m #[Value.ref b] below meth c H locs cells slots Q (F0 m 1911 ls []) := by
  obtain ⟨hx, hb, hts, hown, hml, hX, hbl, hbA, hK⟩ := C
  obtain ⟨r1, σ1, r2, σ2, h1, h2, hI⟩ := hok σ hI
  refine lv_aload_n hx hb dL_law_1911 rfl (lv_at hl 2 rfl) ?_
  refine wl_callVi (As := []) (rest := []) hx hb hml hts hown hK hM wt_rc_X3 cl_228 hl_X3_restore rfl ⟨qz_b rfl, qz_b rfl⟩ ⟨rfl, rfl⟩ hl.1 rfl (qz_b rfl) dL_law_1912 hcs (c_X3_restore h1) (fun H locs hM => ?_)
  refine lv_pop hx hb dL_law_1915 rfl ?_
  refine lv_aload_n hx hb dL_law_1916 rfl (lv_at hl 3 rfl) ?_
  refine wl_callVi (As := []) (rest := []) hx hb hml hts hown hK hM wt_rc_X4 cl_231 hl_X4_restore rfl ⟨qz_b rfl, qz_b rfl⟩ ⟨rfl, rfl⟩ hl.1 rfl (qz_b rfl) dL_law_1917 hcs (c_X4_restore h2) (fun H locs hM => ?_)
  refine lv_pop hx hb dL_law_1920 rfl ?_
  refine lv_goto (tgt := 1947) hx hb dL_law_1921 (by decide) ?_
  exact kk _ _ _ _ hI hM hl
set_option maxHeartbeats 4000000 in
set_option maxRecDepth 100000 in
theorem lw_case_53 {I : Mem → Prop} {F : Nat} (hok : wl_ok_53 I F) (hI : I σ) (C : wl_C p s m meth c b L xs D tI tII B) (hcs : cells ≤ room_1.cells ∧ slots ≤ room_1.slots) (hin : ∀ j : Int32, 0 ≤ j ∧ j ≤ 5 → vp_in (x3 + j) L) (hM : wt_St D tI tII B σ s H locs) (hl : lv_has ls 4 [(3, .int x3), (0, .ref b), (1, .ref (B + 0)), (2, .ref (B + 101))]) (kk : ∀ (σ2 : Mem) (H : Heap) (locs : List Loc) (ls : Array Slot), I σ2 → wt_St D tI tII B σ2 s H locs → lv_has ls 4 [(3, .int x3), (0, .ref b), (1, .ref (B + 0)), (2, .ref (B + 101))] → W p l e room_1 s m #[Value.ref b] below meth c H locs cells slots Q (F0 m 1947 ls [])) : W p l e room_1 s m #[Value.ref b] below meth c H locs cells slots Q (F0 m 1924 ls []) := by
  obtain ⟨hx, hb, hts, hown, hml, hX, hbl, hbA, hK⟩ := C
  obtain ⟨r1, σ1, r2, σ2, h1, h2, hI⟩ := hok σ (xs (x3 + 1).toNatClampNeg) hI
  refine lv_aload_n hx hb dL_law_1924 rfl (lv_at hl 2 rfl) ?_
  refine lv_aload_n hx hb dL_law_1925 rfl (lv_at hl 1 rfl) ?_
  refine lv_iload_n hx hb dL_law_1926 rfl (lv_at hl 0 rfl) ?_
  refine lv_iconst (v := 1) hx hb dL_law_1927 (by decide) ?_
  refine lv_iadd hx hb dL_law_1928 ?_
  refine va_sld hx hb hX hbl hbA hM.2 (hin 1 (by decide)) dL_law_1929 ?_
  refine wl_callVi (As := [.int (xs (x3 + 1).toNatClampNeg)]) (rest := []) hx hb hml hts hown hK hM wt_rc_X3 cl_232 hl_X3_count rfl ⟨qz_b rfl, qz_b rfl⟩ ⟨rfl, rfl⟩ hl.1 rfl (qz_b rfl) dL_law_1930 hcs (c_X3_count h1) (fun H locs hM => ?_)
  refine lv_pop hx hb dL_law_1933 rfl ?_
  refine lv_aload_n hx hb dL_law_1934 rfl (lv_at hl 3 rfl) ?_
  refine lv_aload_n hx hb dL_law_1935 rfl (lv_at hl 1 rfl) ?_
  refine lv_iload_n hx hb dL_law_1936 rfl (lv_at hl 0 rfl) ?_
  refine lv_iconst (v := 1) hx hb dL_law_1937 (by decide) ?_
  refine lv_iadd hx hb dL_law_1938 ?_
  refine va_sld hx hb hX hbl hbA hM.2 (hin 1 (by decide)) dL_law_1939 ?_
  refine wl_callVi (As := [.int (xs (x3 + 1).toNatClampNeg)]) (rest := []) hx hb hml hts hown hK hM wt_rc_X4 cl_235 hl_X4_count rfl ⟨qz_b rfl, qz_b rfl⟩ ⟨rfl, rfl⟩ hl.1 rfl (qz_b rfl) dL_law_1940 hcs (c_X4_count h2) (fun H locs hM => ?_)
  refine lv_pop hx hb dL_law_1943 rfl ?_
  refine lv_goto (tgt := 1947) hx hb dL_law_1944 (by decide) ?_
  exact kk _ _ _ _ hI hM hl
end LWC
