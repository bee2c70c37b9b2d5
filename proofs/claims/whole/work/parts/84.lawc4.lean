set_option maxHeartbeats 4000000 in
set_option maxRecDepth 100000 in
theorem lc_30 {p : Program} {l : Launch} {e : Env} {s : State} {m : MethodId} {below : List Frame} {meth : Method} {c : Code} {H : Heap} {locs : List Loc} {b L i : Nat} {xs : Nat → Int32} {ls : Array Slot} {g : GP} {ad am : Nat → Nat} (N : Nat) {cs cs' ms ms' : St} {r : Int32} (X : LCx p s m c b L xs g) (hI : IW g (fun q => s.heap.size ≤ q) s.heap (wCX g (wM g am ms) ad cs) H locs) (hl : lv_has ls 4 [(0, .ref b), (1, .ref (ad 0)), (2, .ref (am 0)), (3, .int (nI i))]) (hi : i + 5 < L) (h1 : f_X5_nearest N cs (xs (i + 1)) = some (r, cs')) (h2 : f_X6_nearest N ms (xs (i + 1)) = some (r, ms'))
    (kk : ∀ (H : Heap) (locs : List Loc) (ls : Array Slot), IW g (fun q => s.heap.size ≤ q) s.heap (wCX g (wM g am ms') ad cs') H locs → lv_has ls 4 [(0, .ref b), (1, .ref (ad 0)), (2, .ref (am 0)), (3, .int (nI i))] → WL p l e s m b below meth c H locs (F0 m 1453 ls [])) : WL p l e s m b below meth c H locs (F0 m 1190 ls []) := by
  obtain ⟨hx, hb, hml, hown, hts⟩ := id X.1.1
  refine lv_aload_n hx hb dL_law_1190 rfl (lv_at hl 1 rfl) ?_
  refine lv_aload_n hx hb dL_law_1191 rfl (lv_at hl 0 rfl) ?_
  refine lv_iload_n hx hb dL_law_1192 rfl (lv_at hl 3 rfl) ?_
  refine lv_iconst (v := 1) hx hb dL_law_1193 (by decide) ?_
  refine lv_iadd hx hb dL_law_1194 ?_
  refine l_ld (i := i) (j := 1) X hI (by omega) (nI_add i 1) dL_law_1195 ?_
  refine l_I (rest := []) X hI (c_X5_nearest l g (wM g am ms) ad N (xs (i + 1)) cs h1) (cwV 1 hts gL_law_X5_nearest rfl rfl rfl hv_X5_nearest ⟨Nat.le_of_ble_eq_true rfl, Nat.le_of_ble_eq_true rfl⟩) (w_recv X.1 hI 0 at_C rfl) rfl hl.1 rfl (Nat.le_of_ble_eq_true rfl) dL_law_1196 (fun H locs hI => ?_)
  refine lv_aload_n hx hb dL_law_1199 rfl (lv_at hl 2 rfl) ?_
  refine lv_aload_n hx hb dL_law_1200 rfl (lv_at hl 0 rfl) ?_
  refine lv_iload_n hx hb dL_law_1201 rfl (lv_at hl 3 rfl) ?_
  refine lv_iconst (v := 1) hx hb dL_law_1202 (by decide) ?_
  refine lv_iadd hx hb dL_law_1203 ?_
  refine l_ld (i := i) (j := 1) X hI (by omega) (nI_add i 1) dL_law_1204 ?_
  have hI : IW g (fun q => s.heap.size ≤ q) s.heap (wMX g (wC g ad cs') am ms) H locs := hI
  refine l_I (rest := [.int r]) X hI (c_X6_nearest l g (wC g ad cs') am N (xs (i + 1)) ms h2) (cwV 1 hts gL_law_X6_nearest rfl rfl rfl hv_X6_nearest ⟨Nat.le_of_ble_eq_true rfl, Nat.le_of_ble_eq_true rfl⟩) (w_recv X.1 hI (wC g ad cs').length wM_ob rfl) rfl hl.1 rfl (Nat.le_of_ble_eq_true rfl) dL_law_1205 (fun H locs hI => ?_)
  have hI : IW g (fun q => s.heap.size ≤ q) s.heap (wCX g (wM g am ms') ad cs') H locs := hI
  exact lv_icmp_eq (tgt := 1453) hx hb dL_law_1208 (by decide) (fun _ => kk H locs ls hI hl) (fun cz => absurd rfl cz)
set_option maxHeartbeats 4000000 in
set_option maxRecDepth 100000 in
theorem lc_31 {p : Program} {l : Launch} {e : Env} {s : State} {m : MethodId} {below : List Frame} {meth : Method} {c : Code} {H : Heap} {locs : List Loc} {b L i : Nat} {xs : Nat → Int32} {ls : Array Slot} {g : GP} {ad am : Nat → Nat} (N : Nat) {cs cs' ms ms' : St} {r : Int32} (X : LCx p s m c b L xs g) (hI : IW g (fun q => s.heap.size ≤ q) s.heap (wCX g (wM g am ms) ad cs) H locs) (hl : lv_has ls 4 [(0, .ref b), (1, .ref (ad 0)), (2, .ref (am 0)), (3, .int (nI i))]) (hi : i + 5 < L) (h1 : f_X5_mark cs (xs (i + 1)) (xs (i + 2)) (bz (xs (i + 3))) = some (r, cs')) (h2 : f_X6_mark ms (xs (i + 1)) (xs (i + 2)) (bz (xs (i + 3))) = some (r, ms'))
    (kk : ∀ (H : Heap) (locs : List Loc) (ls : Array Slot), IW g (fun q => s.heap.size ≤ q) s.heap (wCX g (wM g am ms') ad cs') H locs → lv_has ls 4 [(0, .ref b), (1, .ref (ad 0)), (2, .ref (am 0)), (3, .int (nI i))] → WL p l e s m b below meth c H locs (F0 m 1453 ls [])) : WL p l e s m b below meth c H locs (F0 m 1213 ls []) := by
  obtain ⟨hx, hb, hml, hown, hts⟩ := id X.1.1
  by_cases cb3 : xs (i + 3) = 0
  · rw [bz_0 cb3] at h1 h2
    refine lv_aload_n hx hb dL_law_1213 rfl (lv_at hl 1 rfl) ?_
    refine lv_aload_n hx hb dL_law_1214 rfl (lv_at hl 0 rfl) ?_
    refine lv_iload_n hx hb dL_law_1215 rfl (lv_at hl 3 rfl) ?_
    refine lv_iconst (v := 1) hx hb dL_law_1216 (by decide) ?_
    refine lv_iadd hx hb dL_law_1217 ?_
    refine l_ld (i := i) (j := 1) X hI (by omega) (nI_add i 1) dL_law_1218 ?_
    refine lv_aload_n hx hb dL_law_1219 rfl (lv_at hl 0 rfl) ?_
    refine lv_iload_n hx hb dL_law_1220 rfl (lv_at hl 3 rfl) ?_
    refine lv_iconst (v := 2) hx hb dL_law_1221 (by decide) ?_
    refine lv_iadd hx hb dL_law_1222 ?_
    refine l_ld (i := i) (j := 2) X hI (by omega) (nI_add i 2) dL_law_1223 ?_
    refine lv_aload_n hx hb dL_law_1224 rfl (lv_at hl 0 rfl) ?_
    refine lv_iload_n hx hb dL_law_1225 rfl (lv_at hl 3 rfl) ?_
    refine lv_iconst (v := 3) hx hb dL_law_1226 (by decide) ?_
    refine lv_iadd hx hb dL_law_1227 ?_
    refine l_ld (i := i) (j := 3) X hI (by omega) (nI_add i 3) dL_law_1228 ?_
    refine lv_if_eq (tgt := 1236) hx hb dL_law_1229 (by decide) (fun _ => ?_) (fun cz => absurd cb3 cz)
    refine lv_iconst (v := 0) hx hb dL_law_1236 (by decide) ?_
    refine l_I (rest := []) X hI (c_X5_mark l g (wM g am ms) ad (xs (i + 1)) (xs (i + 2)) false cs h1) (cwV 3 hts gL_law_X5_mark rfl rfl rfl hv_X5_mark ⟨Nat.le_of_ble_eq_true rfl, Nat.le_of_ble_eq_true rfl⟩) (w_recv X.1 hI 0 at_C rfl) rfl hl.1 rfl (Nat.le_of_ble_eq_true rfl) dL_law_1237 (fun H locs hI => ?_)
    refine lv_aload_n hx hb dL_law_1240 rfl (lv_at hl 2 rfl) ?_
    refine lv_aload_n hx hb dL_law_1241 rfl (lv_at hl 0 rfl) ?_
    refine lv_iload_n hx hb dL_law_1242 rfl (lv_at hl 3 rfl) ?_
    refine lv_iconst (v := 1) hx hb dL_law_1243 (by decide) ?_
    refine lv_iadd hx hb dL_law_1244 ?_
    refine l_ld (i := i) (j := 1) X hI (by omega) (nI_add i 1) dL_law_1245 ?_
    refine lv_aload_n hx hb dL_law_1246 rfl (lv_at hl 0 rfl) ?_
    refine lv_iload_n hx hb dL_law_1247 rfl (lv_at hl 3 rfl) ?_
    refine lv_iconst (v := 2) hx hb dL_law_1248 (by decide) ?_
    refine lv_iadd hx hb dL_law_1249 ?_
    refine l_ld (i := i) (j := 2) X hI (by omega) (nI_add i 2) dL_law_1250 ?_
    refine lv_aload_n hx hb dL_law_1251 rfl (lv_at hl 0 rfl) ?_
    refine lv_iload_n hx hb dL_law_1252 rfl (lv_at hl 3 rfl) ?_
    refine lv_iconst (v := 3) hx hb dL_law_1253 (by decide) ?_
    refine lv_iadd hx hb dL_law_1254 ?_
    refine l_ld (i := i) (j := 3) X hI (by omega) (nI_add i 3) dL_law_1255 ?_
    refine lv_if_eq (tgt := 1263) hx hb dL_law_1256 (by decide) (fun _ => ?_) (fun cz => absurd cb3 cz)
    refine lv_iconst (v := 0) hx hb dL_law_1263 (by decide) ?_
    have hI : IW g (fun q => s.heap.size ≤ q) s.heap (wMX g (wC g ad cs') am ms) H locs := hI
    refine l_I (rest := [.int r]) X hI (c_X6_mark l g (wC g ad cs') am (xs (i + 1)) (xs (i + 2)) false ms h2) (cwV 3 hts gL_law_X6_mark rfl rfl rfl hv_X6_mark ⟨Nat.le_of_ble_eq_true rfl, Nat.le_of_ble_eq_true rfl⟩) (w_recv X.1 hI (wC g ad cs').length wM_ob rfl) rfl hl.1 rfl (Nat.le_of_ble_eq_true rfl) dL_law_1264 (fun H locs hI => ?_)
    have hI : IW g (fun q => s.heap.size ≤ q) s.heap (wCX g (wM g am ms') ad cs') H locs := hI
    exact lv_icmp_eq (tgt := 1453) hx hb dL_law_1267 (by decide) (fun _ => kk H locs ls hI hl) (fun cz => absurd rfl cz)
  · rw [bz_1 cb3] at h1 h2
    refine lv_aload_n hx hb dL_law_1213 rfl (lv_at hl 1 rfl) ?_
    refine lv_aload_n hx hb dL_law_1214 rfl (lv_at hl 0 rfl) ?_
    refine lv_iload_n hx hb dL_law_1215 rfl (lv_at hl 3 rfl) ?_
    refine lv_iconst (v := 1) hx hb dL_law_1216 (by decide) ?_
    refine lv_iadd hx hb dL_law_1217 ?_
    refine l_ld (i := i) (j := 1) X hI (by omega) (nI_add i 1) dL_law_1218 ?_
    refine lv_aload_n hx hb dL_law_1219 rfl (lv_at hl 0 rfl) ?_
    refine lv_iload_n hx hb dL_law_1220 rfl (lv_at hl 3 rfl) ?_
    refine lv_iconst (v := 2) hx hb dL_law_1221 (by decide) ?_
    refine lv_iadd hx hb dL_law_1222 ?_
    refine l_ld (i := i) (j := 2) X hI (by omega) (nI_add i 2) dL_law_1223 ?_
    refine lv_aload_n hx hb dL_law_1224 rfl (lv_at hl 0 rfl) ?_
    refine lv_iload_n hx hb dL_law_1225 rfl (lv_at hl 3 rfl) ?_
    refine lv_iconst (v := 3) hx hb dL_law_1226 (by decide) ?_
    refine lv_iadd hx hb dL_law_1227 ?_
    refine l_ld (i := i) (j := 3) X hI (by omega) (nI_add i 3) dL_law_1228 ?_
    refine lv_if_eq (tgt := 1236) hx hb dL_law_1229 (by decide) (fun cz => absurd cz cb3) (fun _ => ?_)
    refine lv_iconst (v := 1) hx hb dL_law_1232 (by decide) ?_
    refine lv_goto (tgt := 1237) hx hb dL_law_1233 (by decide) ?_
    refine l_I (rest := []) X hI (c_X5_mark l g (wM g am ms) ad (xs (i + 1)) (xs (i + 2)) true cs h1) (cwV 3 hts gL_law_X5_mark rfl rfl rfl hv_X5_mark ⟨Nat.le_of_ble_eq_true rfl, Nat.le_of_ble_eq_true rfl⟩) (w_recv X.1 hI 0 at_C rfl) rfl hl.1 rfl (Nat.le_of_ble_eq_true rfl) dL_law_1237 (fun H locs hI => ?_)
    refine lv_aload_n hx hb dL_law_1240 rfl (lv_at hl 2 rfl) ?_
    refine lv_aload_n hx hb dL_law_1241 rfl (lv_at hl 0 rfl) ?_
    refine lv_iload_n hx hb dL_law_1242 rfl (lv_at hl 3 rfl) ?_
    refine lv_iconst (v := 1) hx hb dL_law_1243 (by decide) ?_
    refine lv_iadd hx hb dL_law_1244 ?_
    refine l_ld (i := i) (j := 1) X hI (by omega) (nI_add i 1) dL_law_1245 ?_
    refine lv_aload_n hx hb dL_law_1246 rfl (lv_at hl 0 rfl) ?_
    refine lv_iload_n hx hb dL_law_1247 rfl (lv_at hl 3 rfl) ?_
    refine lv_iconst (v := 2) hx hb dL_law_1248 (by decide) ?_
    refine lv_iadd hx hb dL_law_1249 ?_
    refine l_ld (i := i) (j := 2) X hI (by omega) (nI_add i 2) dL_law_1250 ?_
    refine lv_aload_n hx hb dL_law_1251 rfl (lv_at hl 0 rfl) ?_
    refine lv_iload_n hx hb dL_law_1252 rfl (lv_at hl 3 rfl) ?_
    refine lv_iconst (v := 3) hx hb dL_law_1253 (by decide) ?_
    refine lv_iadd hx hb dL_law_1254 ?_
    refine l_ld (i := i) (j := 3) X hI (by omega) (nI_add i 3) dL_law_1255 ?_
    refine lv_if_eq (tgt := 1263) hx hb dL_law_1256 (by decide) (fun cz => absurd cz cb3) (fun _ => ?_)
    refine lv_iconst (v := 1) hx hb dL_law_1259 (by decide) ?_
    refine lv_goto (tgt := 1264) hx hb dL_law_1260 (by decide) ?_
    have hI : IW g (fun q => s.heap.size ≤ q) s.heap (wMX g (wC g ad cs') am ms) H locs := hI
    refine l_I (rest := [.int r]) X hI (c_X6_mark l g (wC g ad cs') am (xs (i + 1)) (xs (i + 2)) true ms h2) (cwV 3 hts gL_law_X6_mark rfl rfl rfl hv_X6_mark ⟨Nat.le_of_ble_eq_true rfl, Nat.le_of_ble_eq_true rfl⟩) (w_recv X.1 hI (wC g ad cs').length wM_ob rfl) rfl hl.1 rfl (Nat.le_of_ble_eq_true rfl) dL_law_1264 (fun H locs hI => ?_)
    have hI : IW g (fun q => s.heap.size ≤ q) s.heap (wCX g (wM g am ms') ad cs') H locs := hI
    exact lv_icmp_eq (tgt := 1453) hx hb dL_law_1267 (by decide) (fun _ => kk H locs ls hI hl) (fun cz => absurd rfl cz)
set_option maxHeartbeats 4000000 in
set_option maxRecDepth 100000 in
theorem lc_32 {p : Program} {l : Launch} {e : Env} {s : State} {m : MethodId} {below : List Frame} {meth : Method} {c : Code} {H : Heap} {locs : List Loc} {b L i : Nat} {xs : Nat → Int32} {ls : Array Slot} {g : GP} {ad am : Nat → Nat} (N : Nat) {cs cs' ms ms' : St} {r : Int32} (X : LCx p s m c b L xs g) (hI : IW g (fun q => s.heap.size ≤ q) s.heap (wCX g (wM g am ms) ad cs) H locs) (hl : lv_has ls 4 [(0, .ref b), (1, .ref (ad 0)), (2, .ref (am 0)), (3, .int (nI i))]) (hi : i + 5 < L) (h1 : f_X5_weigh cs (xs (i + 1)) (bz (xs (i + 2))) (xs (i + 3)) = some (r, cs')) (h2 : f_X6_weigh ms (xs (i + 1)) (bz (xs (i + 2))) (xs (i + 3)) = some (r, ms'))
    (kk : ∀ (H : Heap) (locs : List Loc) (ls : Array Slot), IW g (fun q => s.heap.size ≤ q) s.heap (wCX g (wM g am ms') ad cs') H locs → lv_has ls 4 [(0, .ref b), (1, .ref (ad 0)), (2, .ref (am 0)), (3, .int (nI i))] → WL p l e s m b below meth c H locs (F0 m 1453 ls [])) : WL p l e s m b below meth c H locs (F0 m 1272 ls []) := by
  obtain ⟨hx, hb, hml, hown, hts⟩ := id X.1.1
  by_cases cb2 : xs (i + 2) = 0
  · rw [bz_0 cb2] at h1 h2
    refine lv_aload_n hx hb dL_law_1272 rfl (lv_at hl 1 rfl) ?_
    refine lv_aload_n hx hb dL_law_1273 rfl (lv_at hl 0 rfl) ?_
    refine lv_iload_n hx hb dL_law_1274 rfl (lv_at hl 3 rfl) ?_
    refine lv_iconst (v := 1) hx hb dL_law_1275 (by decide) ?_
    refine lv_iadd hx hb dL_law_1276 ?_
    refine l_ld (i := i) (j := 1) X hI (by omega) (nI_add i 1) dL_law_1277 ?_
    refine lv_aload_n hx hb dL_law_1278 rfl (lv_at hl 0 rfl) ?_
    refine lv_iload_n hx hb dL_law_1279 rfl (lv_at hl 3 rfl) ?_
    refine lv_iconst (v := 2) hx hb dL_law_1280 (by decide) ?_
    refine lv_iadd hx hb dL_law_1281 ?_
    refine l_ld (i := i) (j := 2) X hI (by omega) (nI_add i 2) dL_law_1282 ?_
    refine lv_if_eq (tgt := 1290) hx hb dL_law_1283 (by decide) (fun _ => ?_) (fun cz => absurd cb2 cz)
    refine lv_iconst (v := 0) hx hb dL_law_1290 (by decide) ?_
    refine lv_aload_n hx hb dL_law_1291 rfl (lv_at hl 0 rfl) ?_
    refine lv_iload_n hx hb dL_law_1292 rfl (lv_at hl 3 rfl) ?_
    refine lv_iconst (v := 3) hx hb dL_law_1293 (by decide) ?_
    refine lv_iadd hx hb dL_law_1294 ?_
    refine l_ld (i := i) (j := 3) X hI (by omega) (nI_add i 3) dL_law_1295 ?_
    refine l_I (rest := []) X hI (c_X5_weigh l g (wM g am ms) ad (xs (i + 1)) false (xs (i + 3)) cs h1) (cwV 3 hts gL_law_X5_weigh rfl rfl rfl hv_X5_weigh ⟨Nat.le_of_ble_eq_true rfl, Nat.le_of_ble_eq_true rfl⟩) (w_recv X.1 hI 0 at_C rfl) rfl hl.1 rfl (Nat.le_of_ble_eq_true rfl) dL_law_1296 (fun H locs hI => ?_)
    refine lv_aload_n hx hb dL_law_1299 rfl (lv_at hl 2 rfl) ?_
    refine lv_aload_n hx hb dL_law_1300 rfl (lv_at hl 0 rfl) ?_
    refine lv_iload_n hx hb dL_law_1301 rfl (lv_at hl 3 rfl) ?_
    refine lv_iconst (v := 1) hx hb dL_law_1302 (by decide) ?_
    refine lv_iadd hx hb dL_law_1303 ?_
    refine l_ld (i := i) (j := 1) X hI (by omega) (nI_add i 1) dL_law_1304 ?_
    refine lv_aload_n hx hb dL_law_1305 rfl (lv_at hl 0 rfl) ?_
    refine lv_iload_n hx hb dL_law_1306 rfl (lv_at hl 3 rfl) ?_
    refine lv_iconst (v := 2) hx hb dL_law_1307 (by decide) ?_
    refine lv_iadd hx hb dL_law_1308 ?_
    refine l_ld (i := i) (j := 2) X hI (by omega) (nI_add i 2) dL_law_1309 ?_
    refine lv_if_eq (tgt := 1317) hx hb dL_law_1310 (by decide) (fun _ => ?_) (fun cz => absurd cb2 cz)
    refine lv_iconst (v := 0) hx hb dL_law_1317 (by decide) ?_
    refine lv_aload_n hx hb dL_law_1318 rfl (lv_at hl 0 rfl) ?_
    refine lv_iload_n hx hb dL_law_1319 rfl (lv_at hl 3 rfl) ?_
    refine lv_iconst (v := 3) hx hb dL_law_1320 (by decide) ?_
    refine lv_iadd hx hb dL_law_1321 ?_
    refine l_ld (i := i) (j := 3) X hI (by omega) (nI_add i 3) dL_law_1322 ?_
    have hI : IW g (fun q => s.heap.size ≤ q) s.heap (wMX g (wC g ad cs') am ms) H locs := hI
    refine l_I (rest := [.int r]) X hI (c_X6_weigh l g (wC g ad cs') am (xs (i + 1)) false (xs (i + 3)) ms h2) (cwV 3 hts gL_law_X6_weigh rfl rfl rfl hv_X6_weigh ⟨Nat.le_of_ble_eq_true rfl, Nat.le_of_ble_eq_true rfl⟩) (w_recv X.1 hI (wC g ad cs').length wM_ob rfl) rfl hl.1 rfl (Nat.le_of_ble_eq_true rfl) dL_law_1323 (fun H locs hI => ?_)
    have hI : IW g (fun q => s.heap.size ≤ q) s.heap (wCX g (wM g am ms') ad cs') H locs := hI
    exact lv_icmp_eq (tgt := 1453) hx hb dL_law_1326 (by decide) (fun _ => kk H locs ls hI hl) (fun cz => absurd rfl cz)
  · rw [bz_1 cb2] at h1 h2
    refine lv_aload_n hx hb dL_law_1272 rfl (lv_at hl 1 rfl) ?_
    refine lv_aload_n hx hb dL_law_1273 rfl (lv_at hl 0 rfl) ?_
    refine lv_iload_n hx hb dL_law_1274 rfl (lv_at hl 3 rfl) ?_
    refine lv_iconst (v := 1) hx hb dL_law_1275 (by decide) ?_
    refine lv_iadd hx hb dL_law_1276 ?_
    refine l_ld (i := i) (j := 1) X hI (by omega) (nI_add i 1) dL_law_1277 ?_
    refine lv_aload_n hx hb dL_law_1278 rfl (lv_at hl 0 rfl) ?_
    refine lv_iload_n hx hb dL_law_1279 rfl (lv_at hl 3 rfl) ?_
    refine lv_iconst (v := 2) hx hb dL_law_1280 (by decide) ?_
    refine lv_iadd hx hb dL_law_1281 ?_
    refine l_ld (i := i) (j := 2) X hI (by omega) (nI_add i 2) dL_law_1282 ?_
    refine lv_if_eq (tgt := 1290) hx hb dL_law_1283 (by decide) (fun cz => absurd cz cb2) (fun _ => ?_)
    refine lv_iconst (v := 1) hx hb dL_law_1286 (by decide) ?_
    refine lv_goto (tgt := 1291) hx hb dL_law_1287 (by decide) ?_
    refine lv_aload_n hx hb dL_law_1291 rfl (lv_at hl 0 rfl) ?_
    refine lv_iload_n hx hb dL_law_1292 rfl (lv_at hl 3 rfl) ?_
    refine lv_iconst (v := 3) hx hb dL_law_1293 (by decide) ?_
    refine lv_iadd hx hb dL_law_1294 ?_
    refine l_ld (i := i) (j := 3) X hI (by omega) (nI_add i 3) dL_law_1295 ?_
    refine l_I (rest := []) X hI (c_X5_weigh l g (wM g am ms) ad (xs (i + 1)) true (xs (i + 3)) cs h1) (cwV 3 hts gL_law_X5_weigh rfl rfl rfl hv_X5_weigh ⟨Nat.le_of_ble_eq_true rfl, Nat.le_of_ble_eq_true rfl⟩) (w_recv X.1 hI 0 at_C rfl) rfl hl.1 rfl (Nat.le_of_ble_eq_true rfl) dL_law_1296 (fun H locs hI => ?_)
    refine lv_aload_n hx hb dL_law_1299 rfl (lv_at hl 2 rfl) ?_
    refine lv_aload_n hx hb dL_law_1300 rfl (lv_at hl 0 rfl) ?_
    refine lv_iload_n hx hb dL_law_1301 rfl (lv_at hl 3 rfl) ?_
    refine lv_iconst (v := 1) hx hb dL_law_1302 (by decide) ?_
    refine lv_iadd hx hb dL_law_1303 ?_
    refine l_ld (i := i) (j := 1) X hI (by omega) (nI_add i 1) dL_law_1304 ?_
    refine lv_aload_n hx hb dL_law_1305 rfl (lv_at hl 0 rfl) ?_
    refine lv_iload_n hx hb dL_law_1306 rfl (lv_at hl 3 rfl) ?_
    refine lv_iconst (v := 2) hx hb dL_law_1307 (by decide) ?_
    refine lv_iadd hx hb dL_law_1308 ?_
    refine l_ld (i := i) (j := 2) X hI (by omega) (nI_add i 2) dL_law_1309 ?_
    refine lv_if_eq (tgt := 1317) hx hb dL_law_1310 (by decide) (fun cz => absurd cz cb2) (fun _ => ?_)
    refine lv_iconst (v := 1) hx hb dL_law_1313 (by decide) ?_
    refine lv_goto (tgt := 1318) hx hb dL_law_1314 (by decide) ?_
    refine lv_aload_n hx hb dL_law_1318 rfl (lv_at hl 0 rfl) ?_
    refine lv_iload_n hx hb dL_law_1319 rfl (lv_at hl 3 rfl) ?_
    refine lv_iconst (v := 3) hx hb dL_law_1320 (by decide) ?_
    refine lv_iadd hx hb dL_law_1321 ?_
    refine l_ld (i := i) (j := 3) X hI (by omega) (nI_add i 3) dL_law_1322 ?_
    have hI : IW g (fun q => s.heap.size ≤ q) s.heap (wMX g (wC g ad cs') am ms) H locs := hI
    refine l_I (rest := [.int r]) X hI (c_X6_weigh l g (wC g ad cs') am (xs (i + 1)) true (xs (i + 3)) ms h2) (cwV 3 hts gL_law_X6_weigh rfl rfl rfl hv_X6_weigh ⟨Nat.le_of_ble_eq_true rfl, Nat.le_of_ble_eq_true rfl⟩) (w_recv X.1 hI (wC g ad cs').length wM_ob rfl) rfl hl.1 rfl (Nat.le_of_ble_eq_true rfl) dL_law_1323 (fun H locs hI => ?_)
    have hI : IW g (fun q => s.heap.size ≤ q) s.heap (wCX g (wM g am ms') ad cs') H locs := hI
    exact lv_icmp_eq (tgt := 1453) hx hb dL_law_1326 (by decide) (fun _ => kk H locs ls hI hl) (fun cz => absurd rfl cz)
set_option maxHeartbeats 4000000 in
set_option maxRecDepth 100000 in
theorem lc_33 {p : Program} {l : Launch} {e : Env} {s : State} {m : MethodId} {below : List Frame} {meth : Method} {c : Code} {H : Heap} {locs : List Loc} {b L i : Nat} {xs : Nat → Int32} {ls : Array Slot} {g : GP} {ad am : Nat → Nat} (N : Nat) {cs cs' ms ms' : St} {r : Int64} (X : LCx p s m c b L xs g) (hI : IW g (fun q => s.heap.size ≤ q) s.heap (wCX g (wM g am ms) ad cs) H locs) (hl : lv_has ls 4 [(0, .ref b), (1, .ref (ad 0)), (2, .ref (am 0)), (3, .int (nI i))]) (hi : i + 5 < L) (h1 : f_X5_share N cs (xs (i + 1)) (bz (xs (i + 2))) = some (r, cs')) (h2 : f_X6_share N ms (xs (i + 1)) (bz (xs (i + 2))) = some (r, ms'))
    (kk : ∀ (H : Heap) (locs : List Loc) (ls : Array Slot), IW g (fun q => s.heap.size ≤ q) s.heap (wCX g (wM g am ms') ad cs') H locs → lv_has ls 4 [(0, .ref b), (1, .ref (ad 0)), (2, .ref (am 0)), (3, .int (nI i))] → WL p l e s m b below meth c H locs (F0 m 1453 ls [])) : WL p l e s m b below meth c H locs (F0 m 1331 ls []) := by
  obtain ⟨hx, hb, hml, hown, hts⟩ := id X.1.1
  by_cases cb2 : xs (i + 2) = 0
  · rw [bz_0 cb2] at h1 h2
    refine lv_aload_n hx hb dL_law_1331 rfl (lv_at hl 1 rfl) ?_
    refine lv_aload_n hx hb dL_law_1332 rfl (lv_at hl 0 rfl) ?_
    refine lv_iload_n hx hb dL_law_1333 rfl (lv_at hl 3 rfl) ?_
    refine lv_iconst (v := 1) hx hb dL_law_1334 (by decide) ?_
    refine lv_iadd hx hb dL_law_1335 ?_
    refine l_ld (i := i) (j := 1) X hI (by omega) (nI_add i 1) dL_law_1336 ?_
    refine lv_aload_n hx hb dL_law_1337 rfl (lv_at hl 0 rfl) ?_
    refine lv_iload_n hx hb dL_law_1338 rfl (lv_at hl 3 rfl) ?_
    refine lv_iconst (v := 2) hx hb dL_law_1339 (by decide) ?_
    refine lv_iadd hx hb dL_law_1340 ?_
    refine l_ld (i := i) (j := 2) X hI (by omega) (nI_add i 2) dL_law_1341 ?_
    refine lv_if_eq (tgt := 1349) hx hb dL_law_1342 (by decide) (fun _ => ?_) (fun cz => absurd cb2 cz)
    refine lv_iconst (v := 0) hx hb dL_law_1349 (by decide) ?_
    refine l_L (rest := []) X hI (c_X5_share l g (wM g am ms) ad N (xs (i + 1)) false cs h1) (cwV 2 hts gL_law_X5_share rfl rfl rfl hv_X5_share ⟨Nat.le_of_ble_eq_true rfl, Nat.le_of_ble_eq_true rfl⟩) (w_recv X.1 hI 0 at_C rfl) rfl hl.1 rfl (Nat.le_of_ble_eq_true rfl) dL_law_1350 (fun H locs hI => ?_)
    refine lv_aload_n hx hb dL_law_1353 rfl (lv_at hl 2 rfl) ?_
    refine lv_aload_n hx hb dL_law_1354 rfl (lv_at hl 0 rfl) ?_
    refine lv_iload_n hx hb dL_law_1355 rfl (lv_at hl 3 rfl) ?_
    refine lv_iconst (v := 1) hx hb dL_law_1356 (by decide) ?_
    refine lv_iadd hx hb dL_law_1357 ?_
    refine l_ld (i := i) (j := 1) X hI (by omega) (nI_add i 1) dL_law_1358 ?_
    refine lv_aload_n hx hb dL_law_1359 rfl (lv_at hl 0 rfl) ?_
    refine lv_iload_n hx hb dL_law_1360 rfl (lv_at hl 3 rfl) ?_
    refine lv_iconst (v := 2) hx hb dL_law_1361 (by decide) ?_
    refine lv_iadd hx hb dL_law_1362 ?_
    refine l_ld (i := i) (j := 2) X hI (by omega) (nI_add i 2) dL_law_1363 ?_
    refine lv_if_eq (tgt := 1371) hx hb dL_law_1364 (by decide) (fun _ => ?_) (fun cz => absurd cb2 cz)
    refine lv_iconst (v := 0) hx hb dL_law_1371 (by decide) ?_
    have hI : IW g (fun q => s.heap.size ≤ q) s.heap (wMX g (wC g ad cs') am ms) H locs := hI
    refine l_L (rest := [.long r]) X hI (c_X6_share l g (wC g ad cs') am N (xs (i + 1)) false ms h2) (cwV 2 hts gL_law_X6_share rfl rfl rfl hv_X6_share ⟨Nat.le_of_ble_eq_true rfl, Nat.le_of_ble_eq_true rfl⟩) (w_recv X.1 hI (wC g ad cs').length wM_ob rfl) rfl hl.1 rfl (Nat.le_of_ble_eq_true rfl) dL_law_1372 (fun H locs hI => ?_)
    have hI : IW g (fun q => s.heap.size ≤ q) s.heap (wCX g (wM g am ms') ad cs') H locs := hI
    refine W.lcmp hx hb dL_law_1375 ?_
    exact lv_if_eq (tgt := 1453) hx hb dL_law_1376 (by decide) (fun _ => kk H locs ls hI hl) (fun cz => absurd (lg_self r) cz)
  · rw [bz_1 cb2] at h1 h2
    refine lv_aload_n hx hb dL_law_1331 rfl (lv_at hl 1 rfl) ?_
    refine lv_aload_n hx hb dL_law_1332 rfl (lv_at hl 0 rfl) ?_
    refine lv_iload_n hx hb dL_law_1333 rfl (lv_at hl 3 rfl) ?_
    refine lv_iconst (v := 1) hx hb dL_law_1334 (by decide) ?_
    refine lv_iadd hx hb dL_law_1335 ?_
    refine l_ld (i := i) (j := 1) X hI (by omega) (nI_add i 1) dL_law_1336 ?_
    refine lv_aload_n hx hb dL_law_1337 rfl (lv_at hl 0 rfl) ?_
    refine lv_iload_n hx hb dL_law_1338 rfl (lv_at hl 3 rfl) ?_
    refine lv_iconst (v := 2) hx hb dL_law_1339 (by decide) ?_
    refine lv_iadd hx hb dL_law_1340 ?_
    refine l_ld (i := i) (j := 2) X hI (by omega) (nI_add i 2) dL_law_1341 ?_
    refine lv_if_eq (tgt := 1349) hx hb dL_law_1342 (by decide) (fun cz => absurd cz cb2) (fun _ => ?_)
    refine lv_iconst (v := 1) hx hb dL_law_1345 (by decide) ?_
    refine lv_goto (tgt := 1350) hx hb dL_law_1346 (by decide) ?_
    refine l_L (rest := []) X hI (c_X5_share l g (wM g am ms) ad N (xs (i + 1)) true cs h1) (cwV 2 hts gL_law_X5_share rfl rfl rfl hv_X5_share ⟨Nat.le_of_ble_eq_true rfl, Nat.le_of_ble_eq_true rfl⟩) (w_recv X.1 hI 0 at_C rfl) rfl hl.1 rfl (Nat.le_of_ble_eq_true rfl) dL_law_1350 (fun H locs hI => ?_)
    refine lv_aload_n hx hb dL_law_1353 rfl (lv_at hl 2 rfl) ?_
    refine lv_aload_n hx hb dL_law_1354 rfl (lv_at hl 0 rfl) ?_
    refine lv_iload_n hx hb dL_law_1355 rfl (lv_at hl 3 rfl) ?_
    refine lv_iconst (v := 1) hx hb dL_law_1356 (by decide) ?_
    refine lv_iadd hx hb dL_law_1357 ?_
    refine l_ld (i := i) (j := 1) X hI (by omega) (nI_add i 1) dL_law_1358 ?_
    refine lv_aload_n hx hb dL_law_1359 rfl (lv_at hl 0 rfl) ?_
    refine lv_iload_n hx hb dL_law_1360 rfl (lv_at hl 3 rfl) ?_
    refine lv_iconst (v := 2) hx hb dL_law_1361 (by decide) ?_
    refine lv_iadd hx hb dL_law_1362 ?_
    refine l_ld (i := i) (j := 2) X hI (by omega) (nI_add i 2) dL_law_1363 ?_
    refine lv_if_eq (tgt := 1371) hx hb dL_law_1364 (by decide) (fun cz => absurd cz cb2) (fun _ => ?_)
    refine lv_iconst (v := 1) hx hb dL_law_1367 (by decide) ?_
    refine lv_goto (tgt := 1372) hx hb dL_law_1368 (by decide) ?_
    have hI : IW g (fun q => s.heap.size ≤ q) s.heap (wMX g (wC g ad cs') am ms) H locs := hI
    refine l_L (rest := [.long r]) X hI (c_X6_share l g (wC g ad cs') am N (xs (i + 1)) true ms h2) (cwV 2 hts gL_law_X6_share rfl rfl rfl hv_X6_share ⟨Nat.le_of_ble_eq_true rfl, Nat.le_of_ble_eq_true rfl⟩) (w_recv X.1 hI (wC g ad cs').length wM_ob rfl) rfl hl.1 rfl (Nat.le_of_ble_eq_true rfl) dL_law_1372 (fun H locs hI => ?_)
    have hI : IW g (fun q => s.heap.size ≤ q) s.heap (wCX g (wM g am ms') ad cs') H locs := hI
    refine W.lcmp hx hb dL_law_1375 ?_
    exact lv_if_eq (tgt := 1453) hx hb dL_law_1376 (by decide) (fun _ => kk H locs ls hI hl) (fun cz => absurd (lg_self r) cz)
set_option maxHeartbeats 4000000 in
set_option maxRecDepth 100000 in
theorem lc_34 {p : Program} {l : Launch} {e : Env} {s : State} {m : MethodId} {below : List Frame} {meth : Method} {c : Code} {H : Heap} {locs : List Loc} {b L i : Nat} {xs : Nat → Int32} {ls : Array Slot} {g : GP} {ad am : Nat → Nat} (N : Nat) {cs cs' ms ms' : St} {r : Int32} (X : LCx p s m c b L xs g) (hI : IW g (fun q => s.heap.size ≤ q) s.heap (wCX g (wM g am ms) ad cs) H locs) (hl : lv_has ls 4 [(0, .ref b), (1, .ref (ad 0)), (2, .ref (am 0)), (3, .int (nI i))]) (hi : i + 5 < L) (h1 : f_X5_people N cs (xs (i + 1)) = some (r, cs')) (h2 : f_X6_people N ms (xs (i + 1)) = some (r, ms'))
    (kk : ∀ (H : Heap) (locs : List Loc) (ls : Array Slot), IW g (fun q => s.heap.size ≤ q) s.heap (wCX g (wM g am ms') ad cs') H locs → lv_has ls 4 [(0, .ref b), (1, .ref (ad 0)), (2, .ref (am 0)), (3, .int (nI i))] → WL p l e s m b below meth c H locs (F0 m 1453 ls [])) : WL p l e s m b below meth c H locs (F0 m 1381 ls []) := by
  obtain ⟨hx, hb, hml, hown, hts⟩ := id X.1.1
  refine lv_aload_n hx hb dL_law_1381 rfl (lv_at hl 1 rfl) ?_
  refine lv_aload_n hx hb dL_law_1382 rfl (lv_at hl 0 rfl) ?_
  refine lv_iload_n hx hb dL_law_1383 rfl (lv_at hl 3 rfl) ?_
  refine lv_iconst (v := 1) hx hb dL_law_1384 (by decide) ?_
  refine lv_iadd hx hb dL_law_1385 ?_
  refine l_ld (i := i) (j := 1) X hI (by omega) (nI_add i 1) dL_law_1386 ?_
  refine l_I (rest := []) X hI (c_X5_people l g (wM g am ms) ad N (xs (i + 1)) cs h1) (cwV 1 hts gL_law_X5_people rfl rfl rfl hv_X5_people ⟨Nat.le_of_ble_eq_true rfl, Nat.le_of_ble_eq_true rfl⟩) (w_recv X.1 hI 0 at_C rfl) rfl hl.1 rfl (Nat.le_of_ble_eq_true rfl) dL_law_1387 (fun H locs hI => ?_)
  refine lv_aload_n hx hb dL_law_1390 rfl (lv_at hl 2 rfl) ?_
  refine lv_aload_n hx hb dL_law_1391 rfl (lv_at hl 0 rfl) ?_
  refine lv_iload_n hx hb dL_law_1392 rfl (lv_at hl 3 rfl) ?_
  refine lv_iconst (v := 1) hx hb dL_law_1393 (by decide) ?_
  refine lv_iadd hx hb dL_law_1394 ?_
  refine l_ld (i := i) (j := 1) X hI (by omega) (nI_add i 1) dL_law_1395 ?_
  have hI : IW g (fun q => s.heap.size ≤ q) s.heap (wMX g (wC g ad cs') am ms) H locs := hI
  refine l_I (rest := [.int r]) X hI (c_X6_people l g (wC g ad cs') am N (xs (i + 1)) ms h2) (cwV 1 hts gL_law_X6_people rfl rfl rfl hv_X6_people ⟨Nat.le_of_ble_eq_true rfl, Nat.le_of_ble_eq_true rfl⟩) (w_recv X.1 hI (wC g ad cs').length wM_ob rfl) rfl hl.1 rfl (Nat.le_of_ble_eq_true rfl) dL_law_1396 (fun H locs hI => ?_)
  have hI : IW g (fun q => s.heap.size ≤ q) s.heap (wCX g (wM g am ms') ad cs') H locs := hI
  exact lv_icmp_eq (tgt := 1453) hx hb dL_law_1399 (by decide) (fun _ => kk H locs ls hI hl) (fun cz => absurd rfl cz)
set_option maxHeartbeats 4000000 in
set_option maxRecDepth 100000 in
theorem lc_35 {p : Program} {l : Launch} {e : Env} {s : State} {m : MethodId} {below : List Frame} {meth : Method} {c : Code} {H : Heap} {locs : List Loc} {b L i : Nat} {xs : Nat → Int32} {ls : Array Slot} {g : GP} {ad am : Nat → Nat} (N : Nat) {cs cs' ms ms' : St} {r : Int32} (X : LCx p s m c b L xs g) (hI : IW g (fun q => s.heap.size ≤ q) s.heap (wCX g (wM g am ms) ad cs) H locs) (hl : lv_has ls 4 [(0, .ref b), (1, .ref (ad 0)), (2, .ref (am 0)), (3, .int (nI i))]) (hi : i + 5 < L) (h1 : f_X5_keep N cs = some (r, cs')) (h2 : f_X6_keep N ms = some (r, ms'))
    (kk : ∀ (H : Heap) (locs : List Loc) (ls : Array Slot), IW g (fun q => s.heap.size ≤ q) s.heap (wCX g (wM g am ms') ad cs') H locs → lv_has ls 4 [(0, .ref b), (1, .ref (ad 0)), (2, .ref (am 0)), (3, .int (nI i))] → WL p l e s m b below meth c H locs (F0 m 1453 ls [])) : WL p l e s m b below meth c H locs (F0 m 1404 ls []) := by
  obtain ⟨hx, hb, hml, hown, hts⟩ := id X.1.1
  refine lv_aload_n hx hb dL_law_1404 rfl (lv_at hl 1 rfl) ?_
  refine l_I (rest := []) X hI (c_X5_keep l g (wM g am ms) ad N cs h1) (cwV 0 hts gL_law_X5_keep rfl rfl rfl hv_X5_keep ⟨Nat.le_of_ble_eq_true rfl, Nat.le_of_ble_eq_true rfl⟩) (w_recv X.1 hI 0 at_C rfl) rfl hl.1 rfl (Nat.le_of_ble_eq_true rfl) dL_law_1405 (fun H locs hI => ?_)
  refine lv_aload_n hx hb dL_law_1408 rfl (lv_at hl 2 rfl) ?_
  have hI : IW g (fun q => s.heap.size ≤ q) s.heap (wMX g (wC g ad cs') am ms) H locs := hI
  refine l_I (rest := [.int r]) X hI (c_X6_keep l g (wC g ad cs') am N ms h2) (cwV 0 hts gL_law_X6_keep rfl rfl rfl hv_X6_keep ⟨Nat.le_of_ble_eq_true rfl, Nat.le_of_ble_eq_true rfl⟩) (w_recv X.1 hI (wC g ad cs').length wM_ob rfl) rfl hl.1 rfl (Nat.le_of_ble_eq_true rfl) dL_law_1409 (fun H locs hI => ?_)
  have hI : IW g (fun q => s.heap.size ≤ q) s.heap (wCX g (wM g am ms') ad cs') H locs := hI
  exact lv_icmp_eq (tgt := 1453) hx hb dL_law_1412 (by decide) (fun _ => kk H locs ls hI hl) (fun cz => absurd rfl cz)
set_option maxHeartbeats 4000000 in
set_option maxRecDepth 100000 in
theorem lc_36 {p : Program} {l : Launch} {e : Env} {s : State} {m : MethodId} {below : List Frame} {meth : Method} {c : Code} {H : Heap} {locs : List Loc} {b L i : Nat} {xs : Nat → Int32} {ls : Array Slot} {g : GP} {ad am : Nat → Nat} (N : Nat) {cs cs' ms ms' : St} {r : Int32} (X : LCx p s m c b L xs g) (hI : IW g (fun q => s.heap.size ≤ q) s.heap (wCX g (wM g am ms) ad cs) H locs) (hl : lv_has ls 4 [(0, .ref b), (1, .ref (ad 0)), (2, .ref (am 0)), (3, .int (nI i))]) (hi : i + 5 < L) (h1 : f_X5_back N cs = some (r, cs')) (h2 : f_X6_back N ms = some (r, ms'))
    (kk : ∀ (H : Heap) (locs : List Loc) (ls : Array Slot), IW g (fun q => s.heap.size ≤ q) s.heap (wCX g (wM g am ms') ad cs') H locs → lv_has ls 4 [(0, .ref b), (1, .ref (ad 0)), (2, .ref (am 0)), (3, .int (nI i))] → WL p l e s m b below meth c H locs (F0 m 1453 ls [])) : WL p l e s m b below meth c H locs (F0 m 1417 ls []) := by
  obtain ⟨hx, hb, hml, hown, hts⟩ := id X.1.1
  refine lv_aload_n hx hb dL_law_1417 rfl (lv_at hl 1 rfl) ?_
  refine l_I (rest := []) X hI (c_X5_back l g (wM g am ms) ad N cs h1) (cwV 0 hts gL_law_X5_back rfl rfl rfl hv_X5_back ⟨Nat.le_of_ble_eq_true rfl, Nat.le_of_ble_eq_true rfl⟩) (w_recv X.1 hI 0 at_C rfl) rfl hl.1 rfl (Nat.le_of_ble_eq_true rfl) dL_law_1418 (fun H locs hI => ?_)
  refine lv_aload_n hx hb dL_law_1421 rfl (lv_at hl 2 rfl) ?_
  have hI : IW g (fun q => s.heap.size ≤ q) s.heap (wMX g (wC g ad cs') am ms) H locs := hI
  refine l_I (rest := [.int r]) X hI (c_X6_back l g (wC g ad cs') am N ms h2) (cwV 0 hts gL_law_X6_back rfl rfl rfl hv_X6_back ⟨Nat.le_of_ble_eq_true rfl, Nat.le_of_ble_eq_true rfl⟩) (w_recv X.1 hI (wC g ad cs').length wM_ob rfl) rfl hl.1 rfl (Nat.le_of_ble_eq_true rfl) dL_law_1422 (fun H locs hI => ?_)
  have hI : IW g (fun q => s.heap.size ≤ q) s.heap (wCX g (wM g am ms') ad cs') H locs := hI
  exact lv_icmp_eq (tgt := 1453) hx hb dL_law_1425 (by decide) (fun _ => kk H locs ls hI hl) (fun cz => absurd rfl cz)
set_option maxHeartbeats 4000000 in
set_option maxRecDepth 100000 in
theorem lc_37 {p : Program} {l : Launch} {e : Env} {s : State} {m : MethodId} {below : List Frame} {meth : Method} {c : Code} {H : Heap} {locs : List Loc} {b L i : Nat} {xs : Nat → Int32} {ls : Array Slot} {g : GP} {ad am : Nat → Nat} (N : Nat) {cs cs' ms ms' : St} {r : Int32} (X : LCx p s m c b L xs g) (hI : IW g (fun q => s.heap.size ≤ q) s.heap (wCX g (wM g am ms) ad cs) H locs) (hl : lv_has ls 4 [(0, .ref b), (1, .ref (ad 0)), (2, .ref (am 0)), (3, .int (nI i))]) (hi : i + 5 < L) (h1 : f_X5_told N cs (xs (i + 1)) = some (r, cs')) (h2 : f_X6_told N ms (xs (i + 1)) = some (r, ms'))
    (kk : ∀ (H : Heap) (locs : List Loc) (ls : Array Slot), IW g (fun q => s.heap.size ≤ q) s.heap (wCX g (wM g am ms') ad cs') H locs → lv_has ls 4 [(0, .ref b), (1, .ref (ad 0)), (2, .ref (am 0)), (3, .int (nI i))] → WL p l e s m b below meth c H locs (F0 m 1453 ls [])) : WL p l e s m b below meth c H locs (F0 m 1430 ls []) := by
  obtain ⟨hx, hb, hml, hown, hts⟩ := id X.1.1
  refine lv_aload_n hx hb dL_law_1430 rfl (lv_at hl 1 rfl) ?_
  refine lv_aload_n hx hb dL_law_1431 rfl (lv_at hl 0 rfl) ?_
  refine lv_iload_n hx hb dL_law_1432 rfl (lv_at hl 3 rfl) ?_
  refine lv_iconst (v := 1) hx hb dL_law_1433 (by decide) ?_
  refine lv_iadd hx hb dL_law_1434 ?_
  refine l_ld (i := i) (j := 1) X hI (by omega) (nI_add i 1) dL_law_1435 ?_
  refine l_I (rest := []) X hI (c_X5_told l g (wM g am ms) ad N (xs (i + 1)) cs h1) (cwV 1 hts gL_law_X5_told rfl rfl rfl hv_X5_told ⟨Nat.le_of_ble_eq_true rfl, Nat.le_of_ble_eq_true rfl⟩) (w_recv X.1 hI 0 at_C rfl) rfl hl.1 rfl (Nat.le_of_ble_eq_true rfl) dL_law_1436 (fun H locs hI => ?_)
  refine lv_aload_n hx hb dL_law_1439 rfl (lv_at hl 2 rfl) ?_
  refine lv_aload_n hx hb dL_law_1440 rfl (lv_at hl 0 rfl) ?_
  refine lv_iload_n hx hb dL_law_1441 rfl (lv_at hl 3 rfl) ?_
  refine lv_iconst (v := 1) hx hb dL_law_1442 (by decide) ?_
  refine lv_iadd hx hb dL_law_1443 ?_
  refine l_ld (i := i) (j := 1) X hI (by omega) (nI_add i 1) dL_law_1444 ?_
  have hI : IW g (fun q => s.heap.size ≤ q) s.heap (wMX g (wC g ad cs') am ms) H locs := hI
  refine l_I (rest := [.int r]) X hI (c_X6_told l g (wC g ad cs') am N (xs (i + 1)) ms h2) (cwV 1 hts gL_law_X6_told rfl rfl rfl hv_X6_told ⟨Nat.le_of_ble_eq_true rfl, Nat.le_of_ble_eq_true rfl⟩) (w_recv X.1 hI (wC g ad cs').length wM_ob rfl) rfl hl.1 rfl (Nat.le_of_ble_eq_true rfl) dL_law_1445 (fun H locs hI => ?_)
  have hI : IW g (fun q => s.heap.size ≤ q) s.heap (wCX g (wM g am ms') ad cs') H locs := hI
  exact lv_icmp_eq (tgt := 1453) hx hb dL_law_1448 (by decide) (fun _ => kk H locs ls hI hl) (fun cz => absurd rfl cz)
