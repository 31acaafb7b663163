theorem okl_jackets_X11 : lw_ok R_law 126 3 RX11 105 [929, 930, 931, 57] = true := by decide +kernel
theorem okl_jackets_X12 : lw_ok R_law 129 3 RX12 187 [1446, 1447, 1448, 63] = true := by decide +kernel
theorem okl_named_X11 : lw_ok R_law 130 5 RX11 106 [934, 935, 936, 57] = true := by decide +kernel
theorem okl_named_X12 : lw_ok R_law 133 5 RX12 192 [1450, 1451, 1452, 63] = true := by decide +kernel
theorem okl_says_X11 : lw_ok R_law 134 3 RX11 107 [965, 966, 967, 57] = true := by decide +kernel
theorem okl_says_X12 : lw_ok R_law 137 3 RX12 194 [1469, 1470, 1471, 63] = true := by decide +kernel
theorem okl_when_X11 : lw_ok R_law 138 5 RX11 108 [974, 975, 976, 57] = true := by decide +kernel
theorem okl_when_X12 : lw_ok R_law 141 5 RX12 195 [1477, 1478, 1479, 63] = true := by decide +kernel
theorem okl_image_X11 : lw_ok R_law 142 0 RX11 109 [978, 979, 980, 57] = true := by decide +kernel
theorem okl_image_X12 : lw_ok R_law 145 0 RX12 196 [1481, 1482, 1483, 63] = true := by decide +kernel
theorem okl_restore_X11 : lw_ok R_law 146 0 RX11 110 [993, 994, 995, 57] = true := by decide +kernel
theorem okl_restore_X12 : lw_ok R_law 149 0 RX12 197 [1485, 1486, 1487, 63] = true := by decide +kernel
theorem okl_count_X11 : lw_ok R_law 150 1 RX11 111 [1005, 1006, 1007, 57] = true := by decide +kernel
theorem okl_count_X12 : lw_ok R_law 153 1 RX12 200 [1489, 1490, 1491, 63] = true := by decide +kernel
theorem okl_digest_X11 : lw_ok R_law 154 0 RX11 112 [1009, 1010, 1011, 57] = true := by decide +kernel
theorem okl_digest_X12 : lw_ok R_law 158 0 RX12 203 [1501, 1502, 1503, 63] = true := by decide +kernel
section LAW
variable {p : Program} {l : Launch} {e : Env} {s : State} {m : MethodId} {below : List Frame} {meth : Method} {c : Code} {b L : Nat} {xs : Nat → Int32} {cA : Nat → ClassId} {dC : Nat → ClassId} {dI : Nat → Nat → Nat}
variable {N : Nat} {σ : SX} {μ : SM} {ρX ρM : Nat → Nat} {H : Heap} {locs : List Loc} {ls : Array Slot}
theorem lc_jackets (C0 : lw_At p s m meth c b L xs) (hL : L ≤ 3584) (hi : 7 * N + 7 ≤ L) (hK : va_K (dC, dI) vwCl (ev_ty cA) s) (ih : lw_In p l e s m below meth c b cA dC dI (N + 1)) (hR : Rel N σ μ) (hP : va_P (dC, dI) vwCl (ev_cw ρX cA 0 (hX σ) ++ ev_cw ρM cA 0 (hM μ)) H) (hD : va_D (lwA s) (ev_cw ρX cA 0 (hX σ) ++ ev_cw ρM cA 0 (hM μ))) (hS : va_S (lwA s) s.heap H locs) (hGX : ev_G ρX (lwA s) s s.heap) (hGM : ev_G ρM (lwA s) s s.heap) (hl : lv_has ls 4 [(0, .ref b), (1, .ref (ρX 0)), (2, .ref (ρM 0)), (3, .int (nI (7 * N)))]) : W p l e room_1 s m #[Value.ref b] below meth c H locs (100 + N) (4000 + 6 * N) (lw_Z below #[Value.ref b] s) (F0 m 1114 ls []) := by
  obtain ⟨hx, hb, hr, hml, hown, hts, hX', hbl, hlocks, hgv⟩ := id C0
  have hN : N < 512 := by omega
  have hS0 : CallFix p m c code 4 s #[Value.ref b] lw_tbl R_law := ⟨hx, hb, hml, hown, hts⟩
  have hA : ∀ q, s.heap.size ≤ q → lwA s q := fun _ h => h
  have hrm : 100 + N ≤ room_1.cells ∧ 4000 + 6 * N ≤ room_1.slots := ⟨by show 100 + N ≤ 600000; omega, by show 4000 + 6 * N ≤ 7302250; omega⟩
  obtain ⟨r, σ2, μ2, e1, e2, hR2⟩ := sim_jackets N (xs (7 * N + 1)) (xs (7 * N + 2)) (xs (7 * N + 3)) σ μ hR
  refine lv_aload_n hx hb d_law_1114 rfl (lv_at hl 1 rfl) ?_
  refine lw_arg (j := 1) hx hb hX' hbl hS hl (by omega) hL d_law_1115 d_law_1116 d_law_1117 rfl d_law_1118 d_law_1119 ?_
  refine lw_arg (j := 2) hx hb hX' hbl hS hl (by omega) hL d_law_1120 d_law_1121 d_law_1122 rfl d_law_1123 d_law_1124 ?_
  refine lw_arg (j := 3) hx hb hX' hbl hS hl (by omega) hL d_law_1125 d_law_1126 d_law_1127 rfl d_law_1128 d_law_1129 ?_
  refine lw_call (ρ := ρX) (h := hX σ) (z := (some (.int r), hX σ2)) (as := [.int (xs (7 * N + 1)), .int (xs (7 * N + 2)), .int (xs (7 * N + 3))]) hS0 hK hP hD hS hA hGX (tX11_jackets 9 σ (xs (7 * N + 1)) (xs (7 * N + 2)) (xs (7 * N + 3)) (r, σ2) e1) okl_jackets_X11 (ci := 11) rfl rfl rfl ⟨by decide, by decide⟩ hrm hl.1 rfl rfl (Nat.le_of_ble_eq_true rfl) d_law_1130 (fun H locs hP hD hS => ?_)
  refine W.eq (g2 := F0 m 1133 ls [.int r]) rfl ?_
  refine lv_aload_n hx hb d_law_1133 rfl (lv_at hl 2 rfl) ?_
  refine lw_arg (j := 1) hx hb hX' hbl hS hl (by omega) hL d_law_1134 d_law_1135 d_law_1136 rfl d_law_1137 d_law_1138 ?_
  refine lw_arg (j := 2) hx hb hX' hbl hS hl (by omega) hL d_law_1139 d_law_1140 d_law_1141 rfl d_law_1142 d_law_1143 ?_
  refine lw_arg (j := 3) hx hb hX' hbl hS hl (by omega) hL d_law_1144 d_law_1145 d_law_1146 rfl d_law_1147 d_law_1148 ?_
  have hP := wl_Ps hP
  have hD := wl_Ds hD
  refine lw_call (ρ := ρM) (h := hM μ) (z := (some (.int r), hM μ2)) (as := [.int (xs (7 * N + 1)), .int (xs (7 * N + 2)), .int (xs (7 * N + 3))]) hS0 hK hP hD hS hA hGM (tX12_jackets 8 μ (xs (7 * N + 1)) (xs (7 * N + 2)) (xs (7 * N + 3)) (r, μ2) e2) okl_jackets_X12 (ci := 12) rfl rfl rfl ⟨by decide, by decide⟩ hrm hl.1 rfl rfl (Nat.le_of_ble_eq_true rfl) d_law_1149 (fun H locs hP hD hS => ?_)
  have hP := wl_Ps hP
  have hD := wl_Ds hD
  refine W.eq (g2 := F0 m 1152 ls [.int r, .int r]) rfl ?_
  refine lv_icmp_eq (tgt := 1389) hx hb d_law_1152 (by decide) (fun _ => ?_) (fun hne => absurd rfl hne)
  exact lc_end C0 hN ih hR2 hP hD hS hGX hGM hl (by omega) (by omega)
theorem lc_named (C0 : lw_At p s m meth c b L xs) (hL : L ≤ 3584) (hi : 7 * N + 7 ≤ L) (hK : va_K (dC, dI) vwCl (ev_ty cA) s) (ih : lw_In p l e s m below meth c b cA dC dI (N + 1)) (hR : Rel N σ μ) (hP : va_P (dC, dI) vwCl (ev_cw ρX cA 0 (hX σ) ++ ev_cw ρM cA 0 (hM μ)) H) (hD : va_D (lwA s) (ev_cw ρX cA 0 (hX σ) ++ ev_cw ρM cA 0 (hM μ))) (hS : va_S (lwA s) s.heap H locs) (hGX : ev_G ρX (lwA s) s s.heap) (hGM : ev_G ρM (lwA s) s s.heap) (hl : lv_has ls 4 [(0, .ref b), (1, .ref (ρX 0)), (2, .ref (ρM 0)), (3, .int (nI (7 * N)))]) : W p l e room_1 s m #[Value.ref b] below meth c H locs (100 + N) (4000 + 6 * N) (lw_Z below #[Value.ref b] s) (F0 m 1157 ls []) := by
  obtain ⟨hx, hb, hr, hml, hown, hts, hX', hbl, hlocks, hgv⟩ := id C0
  have hN : N < 512 := by omega
  have hS0 : CallFix p m c code 4 s #[Value.ref b] lw_tbl R_law := ⟨hx, hb, hml, hown, hts⟩
  have hA : ∀ q, s.heap.size ≤ q → lwA s q := fun _ h => h
  have hrm : 100 + N ≤ room_1.cells ∧ 4000 + 6 * N ≤ room_1.slots := ⟨by show 100 + N ≤ 600000; omega, by show 4000 + 6 * N ≤ 7302250; omega⟩
  obtain ⟨r, σ2, e1, e2, hR2⟩ := sim_named N (xs (7 * N + 1)) (xs (7 * N + 2)) (xs (7 * N + 3)) (xs (7 * N + 4)) (xs (7 * N + 5)) σ μ hR
  refine lv_aload_n hx hb d_law_1157 rfl (lv_at hl 1 rfl) ?_
  refine lw_arg (j := 1) hx hb hX' hbl hS hl (by omega) hL d_law_1158 d_law_1159 d_law_1160 rfl d_law_1161 d_law_1162 ?_
  refine lw_arg (j := 2) hx hb hX' hbl hS hl (by omega) hL d_law_1163 d_law_1164 d_law_1165 rfl d_law_1166 d_law_1167 ?_
  refine lw_arg (j := 3) hx hb hX' hbl hS hl (by omega) hL d_law_1168 d_law_1169 d_law_1170 rfl d_law_1171 d_law_1172 ?_
  refine lw_arg (j := 4) hx hb hX' hbl hS hl (by omega) hL d_law_1173 d_law_1174 d_law_1175 rfl d_law_1176 d_law_1177 ?_
  refine lw_arg (j := 5) hx hb hX' hbl hS hl (by omega) hL d_law_1178 d_law_1179 d_law_1180 rfl d_law_1181 d_law_1182 ?_
  refine lw_call (ρ := ρX) (h := hX σ) (z := (some (.int r), hX σ2)) (as := [.int (xs (7 * N + 1)), .int (xs (7 * N + 2)), .int (xs (7 * N + 3)), .int (xs (7 * N + 4)), .int (xs (7 * N + 5))]) hS0 hK hP hD hS hA hGX (tX11_named 7 σ (xs (7 * N + 1)) (xs (7 * N + 2)) (xs (7 * N + 3)) (xs (7 * N + 4)) (xs (7 * N + 5)) (r, σ2) e1) okl_named_X11 (ci := 11) rfl rfl rfl ⟨by decide, by decide⟩ hrm hl.1 rfl rfl (Nat.le_of_ble_eq_true rfl) d_law_1183 (fun H locs hP hD hS => ?_)
  refine W.eq (g2 := F0 m 1186 ls [.int r]) rfl ?_
  refine lv_aload_n hx hb d_law_1186 rfl (lv_at hl 2 rfl) ?_
  refine lw_arg (j := 1) hx hb hX' hbl hS hl (by omega) hL d_law_1187 d_law_1188 d_law_1189 rfl d_law_1190 d_law_1191 ?_
  refine lw_arg (j := 2) hx hb hX' hbl hS hl (by omega) hL d_law_1192 d_law_1193 d_law_1194 rfl d_law_1195 d_law_1196 ?_
  refine lw_arg (j := 3) hx hb hX' hbl hS hl (by omega) hL d_law_1197 d_law_1198 d_law_1199 rfl d_law_1200 d_law_1201 ?_
  refine lw_arg (j := 4) hx hb hX' hbl hS hl (by omega) hL d_law_1202 d_law_1203 d_law_1204 rfl d_law_1205 d_law_1206 ?_
  refine lw_arg (j := 5) hx hb hX' hbl hS hl (by omega) hL d_law_1207 d_law_1208 d_law_1209 rfl d_law_1210 d_law_1211 ?_
  have hP := wl_Ps hP
  have hD := wl_Ds hD
  refine lw_call (ρ := ρM) (h := hM μ) (z := (some (.int r), hM μ)) (as := [.int (xs (7 * N + 1)), .int (xs (7 * N + 2)), .int (xs (7 * N + 3)), .int (xs (7 * N + 4)), .int (xs (7 * N + 5))]) hS0 hK hP hD hS hA hGM (tX12_named 7 μ (xs (7 * N + 1)) (xs (7 * N + 2)) (xs (7 * N + 3)) (xs (7 * N + 4)) (xs (7 * N + 5)) r e2) okl_named_X12 (ci := 12) rfl rfl rfl ⟨by decide, by decide⟩ hrm hl.1 rfl rfl (Nat.le_of_ble_eq_true rfl) d_law_1212 (fun H locs hP hD hS => ?_)
  have hP := wl_Ps hP
  have hD := wl_Ds hD
  refine W.eq (g2 := F0 m 1215 ls [.int r, .int r]) rfl ?_
  refine lv_icmp_eq (tgt := 1389) hx hb d_law_1215 (by decide) (fun _ => ?_) (fun hne => absurd rfl hne)
  exact lc_end C0 hN ih hR2 hP hD hS hGX hGM hl (by omega) (by omega)
theorem lc_says (C0 : lw_At p s m meth c b L xs) (hL : L ≤ 3584) (hi : 7 * N + 7 ≤ L) (hK : va_K (dC, dI) vwCl (ev_ty cA) s) (ih : lw_In p l e s m below meth c b cA dC dI (N + 1)) (hR : Rel N σ μ) (hP : va_P (dC, dI) vwCl (ev_cw ρX cA 0 (hX σ) ++ ev_cw ρM cA 0 (hM μ)) H) (hD : va_D (lwA s) (ev_cw ρX cA 0 (hX σ) ++ ev_cw ρM cA 0 (hM μ))) (hS : va_S (lwA s) s.heap H locs) (hGX : ev_G ρX (lwA s) s s.heap) (hGM : ev_G ρM (lwA s) s s.heap) (hl : lv_has ls 4 [(0, .ref b), (1, .ref (ρX 0)), (2, .ref (ρM 0)), (3, .int (nI (7 * N)))]) : W p l e room_1 s m #[Value.ref b] below meth c H locs (100 + N) (4000 + 6 * N) (lw_Z below #[Value.ref b] s) (F0 m 1220 ls []) := by
  obtain ⟨hx, hb, hr, hml, hown, hts, hX', hbl, hlocks, hgv⟩ := id C0
  have hN : N < 512 := by omega
  have hS0 : CallFix p m c code 4 s #[Value.ref b] lw_tbl R_law := ⟨hx, hb, hml, hown, hts⟩
  have hA : ∀ q, s.heap.size ≤ q → lwA s q := fun _ h => h
  have hrm : 100 + N ≤ room_1.cells ∧ 4000 + 6 * N ≤ room_1.slots := ⟨by show 100 + N ≤ 600000; omega, by show 4000 + 6 * N ≤ 7302250; omega⟩
  obtain ⟨r, σ2, e1, e2, hR2⟩ := sim_says N (xs (7 * N + 1)) (xs (7 * N + 2)) (xs (7 * N + 3)) σ μ hR
  refine lv_aload_n hx hb d_law_1220 rfl (lv_at hl 1 rfl) ?_
  refine lw_arg (j := 1) hx hb hX' hbl hS hl (by omega) hL d_law_1221 d_law_1222 d_law_1223 rfl d_law_1224 d_law_1225 ?_
  refine lw_arg (j := 2) hx hb hX' hbl hS hl (by omega) hL d_law_1226 d_law_1227 d_law_1228 rfl d_law_1229 d_law_1230 ?_
  refine lw_arg (j := 3) hx hb hX' hbl hS hl (by omega) hL d_law_1231 d_law_1232 d_law_1233 rfl d_law_1234 d_law_1235 ?_
  refine lw_call (ρ := ρX) (h := hX σ) (z := (some (.int r), hX σ2)) (as := [.int (xs (7 * N + 1)), .int (xs (7 * N + 2)), .int (xs (7 * N + 3))]) hS0 hK hP hD hS hA hGX (tX11_says 7 σ (xs (7 * N + 1)) (xs (7 * N + 2)) (xs (7 * N + 3)) (r, σ2) e1) okl_says_X11 (ci := 11) rfl rfl rfl ⟨by decide, by decide⟩ hrm hl.1 rfl rfl (Nat.le_of_ble_eq_true rfl) d_law_1236 (fun H locs hP hD hS => ?_)
  refine W.eq (g2 := F0 m 1239 ls [.int r]) rfl ?_
  refine lv_aload_n hx hb d_law_1239 rfl (lv_at hl 2 rfl) ?_
  refine lw_arg (j := 1) hx hb hX' hbl hS hl (by omega) hL d_law_1240 d_law_1241 d_law_1242 rfl d_law_1243 d_law_1244 ?_
  refine lw_arg (j := 2) hx hb hX' hbl hS hl (by omega) hL d_law_1245 d_law_1246 d_law_1247 rfl d_law_1248 d_law_1249 ?_
  refine lw_arg (j := 3) hx hb hX' hbl hS hl (by omega) hL d_law_1250 d_law_1251 d_law_1252 rfl d_law_1253 d_law_1254 ?_
  have hP := wl_Ps hP
  have hD := wl_Ds hD
  refine lw_call (ρ := ρM) (h := hM μ) (z := (some (.int r), hM μ)) (as := [.int (xs (7 * N + 1)), .int (xs (7 * N + 2)), .int (xs (7 * N + 3))]) hS0 hK hP hD hS hA hGM (tX12_says 7 μ (xs (7 * N + 1)) (xs (7 * N + 2)) (xs (7 * N + 3)) r e2) okl_says_X12 (ci := 12) rfl rfl rfl ⟨by decide, by decide⟩ hrm hl.1 rfl rfl (Nat.le_of_ble_eq_true rfl) d_law_1255 (fun H locs hP hD hS => ?_)
  have hP := wl_Ps hP
  have hD := wl_Ds hD
  refine W.eq (g2 := F0 m 1258 ls [.int r, .int r]) rfl ?_
  refine lv_icmp_eq (tgt := 1389) hx hb d_law_1258 (by decide) (fun _ => ?_) (fun hne => absurd rfl hne)
  exact lc_end C0 hN ih hR2 hP hD hS hGX hGM hl (by omega) (by omega)
theorem lc_when (C0 : lw_At p s m meth c b L xs) (hL : L ≤ 3584) (hi : 7 * N + 7 ≤ L) (hK : va_K (dC, dI) vwCl (ev_ty cA) s) (ih : lw_In p l e s m below meth c b cA dC dI (N + 1)) (hR : Rel N σ μ) (hP : va_P (dC, dI) vwCl (ev_cw ρX cA 0 (hX σ) ++ ev_cw ρM cA 0 (hM μ)) H) (hD : va_D (lwA s) (ev_cw ρX cA 0 (hX σ) ++ ev_cw ρM cA 0 (hM μ))) (hS : va_S (lwA s) s.heap H locs) (hGX : ev_G ρX (lwA s) s s.heap) (hGM : ev_G ρM (lwA s) s s.heap) (hl : lv_has ls 4 [(0, .ref b), (1, .ref (ρX 0)), (2, .ref (ρM 0)), (3, .int (nI (7 * N)))]) : W p l e room_1 s m #[Value.ref b] below meth c H locs (100 + N) (4000 + 6 * N) (lw_Z below #[Value.ref b] s) (F0 m 1263 ls []) := by
  obtain ⟨hx, hb, hr, hml, hown, hts, hX', hbl, hlocks, hgv⟩ := id C0
  have hN : N < 512 := by omega
  have hS0 : CallFix p m c code 4 s #[Value.ref b] lw_tbl R_law := ⟨hx, hb, hml, hown, hts⟩
  have hA : ∀ q, s.heap.size ≤ q → lwA s q := fun _ h => h
  have hrm : 100 + N ≤ room_1.cells ∧ 4000 + 6 * N ≤ room_1.slots := ⟨by show 100 + N ≤ 600000; omega, by show 4000 + 6 * N ≤ 7302250; omega⟩
  obtain ⟨r, σ2, e1, e2, hR2⟩ := sim_when N (xs (7 * N + 1)) (xs (7 * N + 2)) (xs (7 * N + 3)) (xs (7 * N + 4)) (xs (7 * N + 5)) σ μ hR
  refine lv_aload_n hx hb d_law_1263 rfl (lv_at hl 1 rfl) ?_
  refine lw_arg (j := 1) hx hb hX' hbl hS hl (by omega) hL d_law_1264 d_law_1265 d_law_1266 rfl d_law_1267 d_law_1268 ?_
  refine lw_arg (j := 2) hx hb hX' hbl hS hl (by omega) hL d_law_1269 d_law_1270 d_law_1271 rfl d_law_1272 d_law_1273 ?_
  refine lw_arg (j := 3) hx hb hX' hbl hS hl (by omega) hL d_law_1274 d_law_1275 d_law_1276 rfl d_law_1277 d_law_1278 ?_
  refine lw_arg (j := 4) hx hb hX' hbl hS hl (by omega) hL d_law_1279 d_law_1280 d_law_1281 rfl d_law_1282 d_law_1283 ?_
  refine lw_arg (j := 5) hx hb hX' hbl hS hl (by omega) hL d_law_1284 d_law_1285 d_law_1286 rfl d_law_1287 d_law_1288 ?_
  refine lw_call (ρ := ρX) (h := hX σ) (z := (some (.int r), hX σ2)) (as := [.int (xs (7 * N + 1)), .int (xs (7 * N + 2)), .int (xs (7 * N + 3)), .int (xs (7 * N + 4)), .int (xs (7 * N + 5))]) hS0 hK hP hD hS hA hGX (tX11_when 7 σ (xs (7 * N + 1)) (xs (7 * N + 2)) (xs (7 * N + 3)) (xs (7 * N + 4)) (xs (7 * N + 5)) (r, σ2) e1) okl_when_X11 (ci := 11) rfl rfl rfl ⟨by decide, by decide⟩ hrm hl.1 rfl rfl (Nat.le_of_ble_eq_true rfl) d_law_1289 (fun H locs hP hD hS => ?_)
  refine W.eq (g2 := F0 m 1292 ls [.int r]) rfl ?_
  refine lv_aload_n hx hb d_law_1292 rfl (lv_at hl 2 rfl) ?_
  refine lw_arg (j := 1) hx hb hX' hbl hS hl (by omega) hL d_law_1293 d_law_1294 d_law_1295 rfl d_law_1296 d_law_1297 ?_
  refine lw_arg (j := 2) hx hb hX' hbl hS hl (by omega) hL d_law_1298 d_law_1299 d_law_1300 rfl d_law_1301 d_law_1302 ?_
  refine lw_arg (j := 3) hx hb hX' hbl hS hl (by omega) hL d_law_1303 d_law_1304 d_law_1305 rfl d_law_1306 d_law_1307 ?_
  refine lw_arg (j := 4) hx hb hX' hbl hS hl (by omega) hL d_law_1308 d_law_1309 d_law_1310 rfl d_law_1311 d_law_1312 ?_
  refine lw_arg (j := 5) hx hb hX' hbl hS hl (by omega) hL d_law_1313 d_law_1314 d_law_1315 rfl d_law_1316 d_law_1317 ?_
  have hP := wl_Ps hP
  have hD := wl_Ds hD
  refine lw_call (ρ := ρM) (h := hM μ) (z := (some (.int r), hM μ)) (as := [.int (xs (7 * N + 1)), .int (xs (7 * N + 2)), .int (xs (7 * N + 3)), .int (xs (7 * N + 4)), .int (xs (7 * N + 5))]) hS0 hK hP hD hS hA hGM (tX12_when 7 μ (xs (7 * N + 1)) (xs (7 * N + 2)) (xs (7 * N + 3)) (xs (7 * N + 4)) (xs (7 * N + 5)) r e2) okl_when_X12 (ci := 12) rfl rfl rfl ⟨by decide, by decide⟩ hrm hl.1 rfl rfl (Nat.le_of_ble_eq_true rfl) d_law_1318 (fun H locs hP hD hS => ?_)
  have hP := wl_Ps hP
  have hD := wl_Ds hD
  refine W.eq (g2 := F0 m 1321 ls [.int r, .int r]) rfl ?_
  refine lv_icmp_eq (tgt := 1389) hx hb d_law_1321 (by decide) (fun _ => ?_) (fun hne => absurd rfl hne)
  exact lc_end C0 hN ih hR2 hP hD hS hGX hGM hl (by omega) (by omega)
theorem lc_image (C0 : lw_At p s m meth c b L xs) (hL : L ≤ 3584) (hi : 7 * N + 7 ≤ L) (hK : va_K (dC, dI) vwCl (ev_ty cA) s) (ih : lw_In p l e s m below meth c b cA dC dI (N + 1)) (hR : Rel N σ μ) (hP : va_P (dC, dI) vwCl (ev_cw ρX cA 0 (hX σ) ++ ev_cw ρM cA 0 (hM μ)) H) (hD : va_D (lwA s) (ev_cw ρX cA 0 (hX σ) ++ ev_cw ρM cA 0 (hM μ))) (hS : va_S (lwA s) s.heap H locs) (hGX : ev_G ρX (lwA s) s s.heap) (hGM : ev_G ρM (lwA s) s s.heap) (hl : lv_has ls 4 [(0, .ref b), (1, .ref (ρX 0)), (2, .ref (ρM 0)), (3, .int (nI (7 * N)))]) : W p l e room_1 s m #[Value.ref b] below meth c H locs (100 + N) (4000 + 6 * N) (lw_Z below #[Value.ref b] s) (F0 m 1326 ls []) := by
  obtain ⟨hx, hb, hr, hml, hown, hts, hX', hbl, hlocks, hgv⟩ := id C0
  have hN : N < 512 := by omega
  have hS0 : CallFix p m c code 4 s #[Value.ref b] lw_tbl R_law := ⟨hx, hb, hml, hown, hts⟩
  have hA : ∀ q, s.heap.size ≤ q → lwA s q := fun _ h => h
  have hrm : 100 + N ≤ room_1.cells ∧ 4000 + 6 * N ≤ room_1.slots := ⟨by show 100 + N ≤ 600000; omega, by show 4000 + 6 * N ≤ 7302250; omega⟩
  obtain ⟨r, σ2, μ2, e1, e2, hR2⟩ := sim_image N (by omega)  σ μ hR
  refine lv_aload_n hx hb d_law_1326 rfl (lv_at hl 1 rfl) ?_
  refine lw_call (ρ := ρX) (h := hX σ) (z := (some (.int r), hX σ2)) (as := []) hS0 hK hP hD hS hA hGX (tX11_image 9 σ (r, σ2) e1) okl_image_X11 (ci := 11) rfl rfl rfl ⟨by decide, by decide⟩ hrm hl.1 rfl rfl (Nat.le_of_ble_eq_true rfl) d_law_1327 (fun H locs hP hD hS => ?_)
  refine W.eq (g2 := F0 m 1330 ls [.int r]) rfl ?_
  refine lv_aload_n hx hb d_law_1330 rfl (lv_at hl 2 rfl) ?_
  have hP := wl_Ps hP
  have hD := wl_Ds hD
  refine lw_call (ρ := ρM) (h := hM μ) (z := (some (.int r), hM μ2)) (as := []) hS0 hK hP hD hS hA hGM (tX12_image 10 μ (r, μ2) e2) okl_image_X12 (ci := 12) rfl rfl rfl ⟨by decide, by decide⟩ hrm hl.1 rfl rfl (Nat.le_of_ble_eq_true rfl) d_law_1331 (fun H locs hP hD hS => ?_)
  have hP := wl_Ps hP
  have hD := wl_Ds hD
  refine W.eq (g2 := F0 m 1334 ls [.int r, .int r]) rfl ?_
  refine lv_icmp_eq (tgt := 1389) hx hb d_law_1334 (by decide) (fun _ => ?_) (fun hne => absurd rfl hne)
  exact lc_end C0 hN ih hR2 hP hD hS hGX hGM hl (by omega) (by omega)
theorem lc_restore (C0 : lw_At p s m meth c b L xs) (hL : L ≤ 3584) (hi : 7 * N + 7 ≤ L) (hK : va_K (dC, dI) vwCl (ev_ty cA) s) (ih : lw_In p l e s m below meth c b cA dC dI (N + 1)) (hR : Rel N σ μ) (hP : va_P (dC, dI) vwCl (ev_cw ρX cA 0 (hX σ) ++ ev_cw ρM cA 0 (hM μ)) H) (hD : va_D (lwA s) (ev_cw ρX cA 0 (hX σ) ++ ev_cw ρM cA 0 (hM μ))) (hS : va_S (lwA s) s.heap H locs) (hGX : ev_G ρX (lwA s) s s.heap) (hGM : ev_G ρM (lwA s) s s.heap) (hl : lv_has ls 4 [(0, .ref b), (1, .ref (ρX 0)), (2, .ref (ρM 0)), (3, .int (nI (7 * N)))]) : W p l e room_1 s m #[Value.ref b] below meth c H locs (100 + N) (4000 + 6 * N) (lw_Z below #[Value.ref b] s) (F0 m 1339 ls []) := by
  obtain ⟨hx, hb, hr, hml, hown, hts, hX', hbl, hlocks, hgv⟩ := id C0
  have hN : N < 512 := by omega
  have hS0 : CallFix p m c code 4 s #[Value.ref b] lw_tbl R_law := ⟨hx, hb, hml, hown, hts⟩
  have hA : ∀ q, s.heap.size ≤ q → lwA s q := fun _ h => h
  have hrm : 100 + N ≤ room_1.cells ∧ 4000 + 6 * N ≤ room_1.slots := ⟨by show 100 + N ≤ 600000; omega, by show 4000 + 6 * N ≤ 7302250; omega⟩
  obtain ⟨r, σ2, μ2, e1, e2, hR2⟩ := sim_restore N  σ μ hR
  refine lv_aload_n hx hb d_law_1339 rfl (lv_at hl 1 rfl) ?_
  refine lw_call (ρ := ρX) (h := hX σ) (z := (some (.int r), hX σ2)) (as := []) hS0 hK hP hD hS hA hGX (tX11_restore 8 σ (r, σ2) e1) okl_restore_X11 (ci := 11) rfl rfl rfl ⟨by decide, by decide⟩ hrm hl.1 rfl rfl (Nat.le_of_ble_eq_true rfl) d_law_1340 (fun H locs hP hD hS => ?_)
  refine W.eq (g2 := F0 m 1343 ls [.int r]) rfl ?_
  refine lv_aload_n hx hb d_law_1343 rfl (lv_at hl 2 rfl) ?_
  have hP := wl_Ps hP
  have hD := wl_Ds hD
  refine lw_call (ρ := ρM) (h := hM μ) (z := (some (.int r), hM μ2)) (as := []) hS0 hK hP hD hS hA hGM (tX12_restore 10 μ (r, μ2) e2) okl_restore_X12 (ci := 12) rfl rfl rfl ⟨by decide, by decide⟩ hrm hl.1 rfl rfl (Nat.le_of_ble_eq_true rfl) d_law_1344 (fun H locs hP hD hS => ?_)
  have hP := wl_Ps hP
  have hD := wl_Ds hD
  refine W.eq (g2 := F0 m 1347 ls [.int r, .int r]) rfl ?_
  refine lv_icmp_eq (tgt := 1389) hx hb d_law_1347 (by decide) (fun _ => ?_) (fun hne => absurd rfl hne)
  exact lc_end C0 hN ih hR2 hP hD hS hGX hGM hl (by omega) (by omega)
theorem lc_count (C0 : lw_At p s m meth c b L xs) (hL : L ≤ 3584) (hi : 7 * N + 7 ≤ L) (hK : va_K (dC, dI) vwCl (ev_ty cA) s) (ih : lw_In p l e s m below meth c b cA dC dI (N + 1)) (hR : Rel N σ μ) (hP : va_P (dC, dI) vwCl (ev_cw ρX cA 0 (hX σ) ++ ev_cw ρM cA 0 (hM μ)) H) (hD : va_D (lwA s) (ev_cw ρX cA 0 (hX σ) ++ ev_cw ρM cA 0 (hM μ))) (hS : va_S (lwA s) s.heap H locs) (hGX : ev_G ρX (lwA s) s s.heap) (hGM : ev_G ρM (lwA s) s s.heap) (hl : lv_has ls 4 [(0, .ref b), (1, .ref (ρX 0)), (2, .ref (ρM 0)), (3, .int (nI (7 * N)))]) : W p l e room_1 s m #[Value.ref b] below meth c H locs (100 + N) (4000 + 6 * N) (lw_Z below #[Value.ref b] s) (F0 m 1352 ls []) := by
  obtain ⟨hx, hb, hr, hml, hown, hts, hX', hbl, hlocks, hgv⟩ := id C0
  have hN : N < 512 := by omega
  have hS0 : CallFix p m c code 4 s #[Value.ref b] lw_tbl R_law := ⟨hx, hb, hml, hown, hts⟩
  have hA : ∀ q, s.heap.size ≤ q → lwA s q := fun _ h => h
  have hrm : 100 + N ≤ room_1.cells ∧ 4000 + 6 * N ≤ room_1.slots := ⟨by show 100 + N ≤ 600000; omega, by show 4000 + 6 * N ≤ 7302250; omega⟩
  obtain ⟨r, e1, e2⟩ := sim_count N (xs (7 * N + 1)) σ μ hR
  have hR2 := hR.mono (Nat.le_succ N)
  refine lv_aload_n hx hb d_law_1352 rfl (lv_at hl 1 rfl) ?_
  refine lw_arg (j := 1) hx hb hX' hbl hS hl (by omega) hL d_law_1353 d_law_1354 d_law_1355 rfl d_law_1356 d_law_1357 ?_
  refine lw_call (ρ := ρX) (h := hX σ) (z := (some (.int r), hX σ)) (as := [.int (xs (7 * N + 1))]) hS0 hK hP hD hS hA hGX (tX11_count 9 σ (xs (7 * N + 1)) r e1) okl_count_X11 (ci := 11) rfl rfl rfl ⟨by decide, by decide⟩ hrm hl.1 rfl rfl (Nat.le_of_ble_eq_true rfl) d_law_1358 (fun H locs hP hD hS => ?_)
  refine W.eq (g2 := F0 m 1361 ls [.int r]) rfl ?_
  refine lv_aload_n hx hb d_law_1361 rfl (lv_at hl 2 rfl) ?_
  refine lw_arg (j := 1) hx hb hX' hbl hS hl (by omega) hL d_law_1362 d_law_1363 d_law_1364 rfl d_law_1365 d_law_1366 ?_
  have hP := wl_Ps hP
  have hD := wl_Ds hD
  refine lw_call (ρ := ρM) (h := hM μ) (z := (some (.int r), hM μ)) (as := [.int (xs (7 * N + 1))]) hS0 hK hP hD hS hA hGM (tX12_count 5 μ (xs (7 * N + 1)) r e2) okl_count_X12 (ci := 12) rfl rfl rfl ⟨by decide, by decide⟩ hrm hl.1 rfl rfl (Nat.le_of_ble_eq_true rfl) d_law_1367 (fun H locs hP hD hS => ?_)
  have hP := wl_Ps hP
  have hD := wl_Ds hD
  refine W.eq (g2 := F0 m 1370 ls [.int r, .int r]) rfl ?_
  refine lv_icmp_eq (tgt := 1389) hx hb d_law_1370 (by decide) (fun _ => ?_) (fun hne => absurd rfl hne)
  exact lc_end C0 hN ih hR2 hP hD hS hGX hGM hl (by omega) (by omega)
theorem lc_digest (C0 : lw_At p s m meth c b L xs) (hL : L ≤ 3584) (hi : 7 * N + 7 ≤ L) (hK : va_K (dC, dI) vwCl (ev_ty cA) s) (ih : lw_In p l e s m below meth c b cA dC dI (N + 1)) (hR : Rel N σ μ) (hP : va_P (dC, dI) vwCl (ev_cw ρX cA 0 (hX σ) ++ ev_cw ρM cA 0 (hM μ)) H) (hD : va_D (lwA s) (ev_cw ρX cA 0 (hX σ) ++ ev_cw ρM cA 0 (hM μ))) (hS : va_S (lwA s) s.heap H locs) (hGX : ev_G ρX (lwA s) s s.heap) (hGM : ev_G ρM (lwA s) s s.heap) (hl : lv_has ls 4 [(0, .ref b), (1, .ref (ρX 0)), (2, .ref (ρM 0)), (3, .int (nI (7 * N)))]) : W p l e room_1 s m #[Value.ref b] below meth c H locs (100 + N) (4000 + 6 * N) (lw_Z below #[Value.ref b] s) (F0 m 1375 ls []) := by
  obtain ⟨hx, hb, hr, hml, hown, hts, hX', hbl, hlocks, hgv⟩ := id C0
  have hN : N < 512 := by omega
  have hS0 : CallFix p m c code 4 s #[Value.ref b] lw_tbl R_law := ⟨hx, hb, hml, hown, hts⟩
  have hA : ∀ q, s.heap.size ≤ q → lwA s q := fun _ h => h
  have hrm : 100 + N ≤ room_1.cells ∧ 4000 + 6 * N ≤ room_1.slots := ⟨by show 100 + N ≤ 600000; omega, by show 4000 + 6 * N ≤ 7302250; omega⟩
  obtain ⟨r, σ2, μ2, e1, e2, hR2⟩ := sim_digest N (by omega)  σ μ hR
  refine lv_aload_n hx hb d_law_1375 rfl (lv_at hl 1 rfl) ?_
  refine lw_call (ρ := ρX) (h := hX σ) (z := (some (.long r), hX σ2)) (as := []) hS0 hK hP hD hS hA hGX (tX11_digest 5 σ (r, σ2) e1) okl_digest_X11 (ci := 11) rfl rfl rfl ⟨by decide, by decide⟩ hrm hl.1 rfl rfl (Nat.le_of_ble_eq_true rfl) d_law_1376 (fun H locs hP hD hS => ?_)
  refine W.eq (g2 := F0 m 1379 ls [.long r]) rfl ?_
  refine lv_aload_n hx hb d_law_1379 rfl (lv_at hl 2 rfl) ?_
  have hP := wl_Ps hP
  have hD := wl_Ds hD
  refine lw_call (ρ := ρM) (h := hM μ) (z := (some (.long r), hM μ2)) (as := []) hS0 hK hP hD hS hA hGM (tX12_digest 3 μ (r, μ2) e2) okl_digest_X12 (ci := 12) rfl rfl rfl ⟨by decide, by decide⟩ hrm hl.1 rfl rfl (Nat.le_of_ble_eq_true rfl) d_law_1380 (fun H locs hP hD hS => ?_)
  have hP := wl_Ps hP
  have hD := wl_Ds hD
  refine W.eq (g2 := F0 m 1383 ls [.long r, .long r]) rfl ?_
  refine W.lcmp hx hb d_law_1383 ?_
  rw [lg_self]
  refine lv_if_eq (tgt := 1389) hx hb d_law_1384 (by decide) (fun _ => ?_) (fun hne => absurd rfl hne)
  exact lc_end C0 hN ih hR2 hP hD hS hGX hGM hl (by omega) (by omega)
end LAW
