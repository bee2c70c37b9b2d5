/-! the law: its own rows -/
def bz (v : Int32) : Bool := decide (¬ v = 0)
theorem bz_0 {v : Int32} (h : v = 0) : bz v = false := by simp [bz, h]
theorem bz_1 {v : Int32} (h : ¬ v = 0) : bz v = true := by simp [bz, h]
def LCx (p : Program) (s : State) (m : MethodId) (c : Code) (b L : Nat) (xs : Nat → Int32) (g : GP) : Prop := Cx p s m #[Value.ref b] c code 4 wsL_law RL g (fun q => s.heap.size ≤ q) ∧ va_X b L xs s s.heap ∧ b < s.heap.size ∧ L ≤ 3072
abbrev WL (p : Program) (l : Launch) (e : Env) (s : State) (m : MethodId) (b : Nat) (below : List Frame) (meth : Method) (c : Code) (H : Heap) (locs : List Loc) (f : JFrame) : Prop := W p l e room_1 s m #[Value.ref b] below meth c H locs 600000 7302250 (lw_Z below #[Value.ref b] s) f
theorem lg_self (x : Int64) : lg_cmp x x = 0 := by
  unfold lg_cmp
  simp
section LawRows
variable {p : Program} {l : Launch} {e : Env} {s : State} {m : MethodId} {below : List Frame} {meth : Method} {c : Code} {H : Heap} {locs : List Loc} {pc b L maxL n index : Nat} {xs : Nat → Int32} {ls : Array Slot} {rest st0 As : List Value} {g : GP} {bytes : ByteArray} {ws : List Cond} {C : String} {y : MethodName} {ret : Option FieldType} {rm : Room} {wf : St → va_W} {st st' : St} {a : Nat} {w : va_W}
theorem l_ld (X : LCx p s m c b L xs g) (hI : IW g (fun q => s.heap.size ≤ q) s.heap w H locs) {i j : Nat} (hij : i + j < L) {x : Int32} (hx : x = nI (i + j)) (hdg : decode code pc = .ok (.iaload, 1)) (kk : WL p l e s m b below meth c H locs (F0 m (pc + 1) ls (.int (xs (i + j)) :: rest))) : WL p l e s m b below meth c H locs (F0 m pc ls (.int x :: .ref b :: rest)) := by
  subst hx
  have hb : i + j < 2 ^ 31 := by have := X.2.2.2; omega
  refine va_sld X.1.1.1 X.1.1.2.1 X.2.1 X.2.2.1 (Nat.not_le.mpr X.2.2.1) hI.2.2.1 (vp_in_nI hij (by have := X.2.2.2; omega)) hdg ?_
  rw [nI_clamp hb]
  exact kk
theorem l_I {r : Int32} (X : LCx p s m c b L xs g) (hI : IW g (fun q => s.heap.size ≤ q) s.heap (wf st) H locs) (hM : MetI l y ws rm g wf (.ref a :: As) st r st') (cw : CallW room_1 s #[Value.ref b] RL C index y bytes maxL ret ws rm 0 0 n) (hv : ∃ cell : Cell, H[a]? = some cell ∧ cell.vm.isStatics = false ∧ s.vm.findClass C = some cell.cls) (hn : As.length = n) (hs : ls.size = 4) (hk : st0 = As.reverse ++ .ref a :: rest) (hW : (rest.map fun v => v.category).sum ≤ 8) (hdg : decode code pc = .ok (.invokevirtual index, 3))
    (kk : ∀ (H1 : Heap) (locs1 : List Loc), IW g (fun q => s.heap.size ≤ q) s.heap (wf st') H1 locs1 → WL p l e s m b below meth c H1 locs1 (F0 m (pc + 3) ls (.int r :: rest))) : WL p l e s m b below meth c H locs (F0 m pc ls st0) := by
  refine va_calli (va_runV (As := As) (rest := rest) X.1.1 (hM H.size) cw ⟨blind_G, hv, pre_G X.1 hI⟩ rfl hn hs hk (lv_room hW) hdg ⟨Nat.le_of_ble_eq_true rfl, Nat.le_of_ble_eq_true rfl⟩) hI.2.2.1 (fun q _ h => free_all hI q h) (free_all hI) (fun r' u t H1 locs1 ht hvm hw hB hz hk1 hS => ?_)
  subst hw
  exact kk H1 locs1 ⟨by rw [← ht]; exact hB.1, hB.2.weaken (fun _ _ _ h => free_all hI _ h), hS, hI.2.2.2⟩
theorem l_L {r : Int64} (X : LCx p s m c b L xs g) (hI : IW g (fun q => s.heap.size ≤ q) s.heap (wf st) H locs) (hM : MetL l y ws rm g wf (.ref a :: As) st r st') (cw : CallW room_1 s #[Value.ref b] RL C index y bytes maxL ret ws rm 0 0 n) (hv : ∃ cell : Cell, H[a]? = some cell ∧ cell.vm.isStatics = false ∧ s.vm.findClass C = some cell.cls) (hn : As.length = n) (hs : ls.size = 4) (hk : st0 = As.reverse ++ .ref a :: rest) (hW : (rest.map fun v => v.category).sum ≤ 8) (hdg : decode code pc = .ok (.invokevirtual index, 3))
    (kk : ∀ (H1 : Heap) (locs1 : List Loc), IW g (fun q => s.heap.size ≤ q) s.heap (wf st') H1 locs1 → WL p l e s m b below meth c H1 locs1 (F0 m (pc + 3) ls (.long r :: rest))) : WL p l e s m b below meth c H locs (F0 m pc ls st0) := by
  refine va_calll (va_runV (As := As) (rest := rest) X.1.1 (hM H.size) cw ⟨blind_G, hv, pre_G X.1 hI⟩ rfl hn hs hk (lv_room hW) hdg ⟨Nat.le_of_ble_eq_true rfl, Nat.le_of_ble_eq_true rfl⟩) hI.2.2.1 (fun q _ h => free_all hI q h) (free_all hI) (fun r' u t H1 locs1 ht hvm hw hB hz hk1 hS => ?_)
  subst hw
  exact kk H1 locs1 ⟨by rw [← ht]; exact hB.1, hB.2.weaken (fun _ _ _ h => free_all hI _ h), hS, hI.2.2.2⟩
end LawRows
set_option maxHeartbeats 4000000 in
set_option maxRecDepth 100000 in
theorem lc_0 {p : Program} {l : Launch} {e : Env} {s : State} {m : MethodId} {below : List Frame} {meth : Method} {c : Code} {H : Heap} {locs : List Loc} {b L i : Nat} {xs : Nat → Int32} {ls : Array Slot} {g : GP} {ad am : Nat → Nat} (N : Nat) {cs cs' ms ms' : St} {r : Int32} (X : LCx p s m c b L xs g) (hI : IW g (fun q => s.heap.size ≤ q) s.heap (wCX g (wM g am ms) ad cs) H locs) (hl : lv_has ls 4 [(0, .ref b), (1, .ref (ad 0)), (2, .ref (am 0)), (3, .int (nI i))]) (hi : i + 5 < L) (h1 : f_X5_grave cs (xs (i + 1)) (xs (i + 2)) (xs (i + 3)) = some (r, cs')) (h2 : f_X6_grave ms (xs (i + 1)) (xs (i + 2)) (xs (i + 3)) = some (r, ms'))
    (kk : ∀ (H : Heap) (locs : List Loc) (ls : Array Slot), IW g (fun q => s.heap.size ≤ q) s.heap (wCX g (wM g am ms') ad cs') H locs → lv_has ls 4 [(0, .ref b), (1, .ref (ad 0)), (2, .ref (am 0)), (3, .int (nI i))] → WL p l e s m b below meth c H locs (F0 m 1453 ls [])) : WL p l e s m b below meth c H locs (F0 m 200 ls []) := by
  obtain ⟨hx, hb, hml, hown, hts⟩ := id X.1.1
  refine lv_aload_n hx hb dL_law_200 rfl (lv_at hl 1 rfl) ?_
  refine lv_aload_n hx hb dL_law_201 rfl (lv_at hl 0 rfl) ?_
  refine lv_iload_n hx hb dL_law_202 rfl (lv_at hl 3 rfl) ?_
  refine lv_iconst (v := 1) hx hb dL_law_203 (by decide) ?_
  refine lv_iadd hx hb dL_law_204 ?_
  refine l_ld (i := i) (j := 1) X hI (by omega) (nI_add i 1) dL_law_205 ?_
  refine lv_aload_n hx hb dL_law_206 rfl (lv_at hl 0 rfl) ?_
  refine lv_iload_n hx hb dL_law_207 rfl (lv_at hl 3 rfl) ?_
  refine lv_iconst (v := 2) hx hb dL_law_208 (by decide) ?_
  refine lv_iadd hx hb dL_law_209 ?_
  refine l_ld (i := i) (j := 2) X hI (by omega) (nI_add i 2) dL_law_210 ?_
  refine lv_aload_n hx hb dL_law_211 rfl (lv_at hl 0 rfl) ?_
  refine lv_iload_n hx hb dL_law_212 rfl (lv_at hl 3 rfl) ?_
  refine lv_iconst (v := 3) hx hb dL_law_213 (by decide) ?_
  refine lv_iadd hx hb dL_law_214 ?_
  refine l_ld (i := i) (j := 3) X hI (by omega) (nI_add i 3) dL_law_215 ?_
  refine l_I (rest := []) X hI (c_X5_grave l g (wM g am ms) ad (xs (i + 1)) (xs (i + 2)) (xs (i + 3)) cs h1) (cwV 3 hts gL_law_X5_grave rfl rfl rfl hv_X5_grave ⟨Nat.le_of_ble_eq_true rfl, Nat.le_of_ble_eq_true rfl⟩) (w_recv X.1 hI 0 at_C rfl) rfl hl.1 rfl (Nat.le_of_ble_eq_true rfl) dL_law_216 (fun H locs hI => ?_)
  refine lv_aload_n hx hb dL_law_219 rfl (lv_at hl 2 rfl) ?_
  refine lv_aload_n hx hb dL_law_220 rfl (lv_at hl 0 rfl) ?_
  refine lv_iload_n hx hb dL_law_221 rfl (lv_at hl 3 rfl) ?_
  refine lv_iconst (v := 1) hx hb dL_law_222 (by decide) ?_
  refine lv_iadd hx hb dL_law_223 ?_
  refine l_ld (i := i) (j := 1) X hI (by omega) (nI_add i 1) dL_law_224 ?_
  refine lv_aload_n hx hb dL_law_225 rfl (lv_at hl 0 rfl) ?_
  refine lv_iload_n hx hb dL_law_226 rfl (lv_at hl 3 rfl) ?_
  refine lv_iconst (v := 2) hx hb dL_law_227 (by decide) ?_
  refine lv_iadd hx hb dL_law_228 ?_
  refine l_ld (i := i) (j := 2) X hI (by omega) (nI_add i 2) dL_law_229 ?_
  refine lv_aload_n hx hb dL_law_230 rfl (lv_at hl 0 rfl) ?_
  refine lv_iload_n hx hb dL_law_231 rfl (lv_at hl 3 rfl) ?_
  refine lv_iconst (v := 3) hx hb dL_law_232 (by decide) ?_
  refine lv_iadd hx hb dL_law_233 ?_
  refine l_ld (i := i) (j := 3) X hI (by omega) (nI_add i 3) dL_law_234 ?_
  have hI : IW g (fun q => s.heap.size ≤ q) s.heap (wMX g (wC g ad cs') am ms) H locs := hI
  refine l_I (rest := [.int r]) X hI (c_X6_grave l g (wC g ad cs') am (xs (i + 1)) (xs (i + 2)) (xs (i + 3)) ms h2) (cwV 3 hts gL_law_X6_grave rfl rfl rfl hv_X6_grave ⟨Nat.le_of_ble_eq_true rfl, Nat.le_of_ble_eq_true rfl⟩) (w_recv X.1 hI (wC g ad cs').length wM_ob rfl) rfl hl.1 rfl (Nat.le_of_ble_eq_true rfl) dL_law_235 (fun H locs hI => ?_)
  have hI : IW g (fun q => s.heap.size ≤ q) s.heap (wCX g (wM g am ms') ad cs') H locs := hI
  exact lv_icmp_eq (tgt := 1453) hx hb dL_law_238 (by decide) (fun _ => kk H locs ls hI hl) (fun cz => absurd rfl cz)
set_option maxHeartbeats 4000000 in
set_option maxRecDepth 100000 in
theorem lc_1 {p : Program} {l : Launch} {e : Env} {s : State} {m : MethodId} {below : List Frame} {meth : Method} {c : Code} {H : Heap} {locs : List Loc} {b L i : Nat} {xs : Nat → Int32} {ls : Array Slot} {g : GP} {ad am : Nat → Nat} (N : Nat) {cs cs' ms ms' : St} {r : Int32} (X : LCx p s m c b L xs g) (hI : IW g (fun q => s.heap.size ≤ q) s.heap (wCX g (wM g am ms) ad cs) H locs) (hl : lv_has ls 4 [(0, .ref b), (1, .ref (ad 0)), (2, .ref (am 0)), (3, .int (nI i))]) (hi : i + 5 < L) (h1 : f_X5_as N cs (xs (i + 1)) (xs (i + 2)) = some (r, cs')) (h2 : f_X6_as ms (xs (i + 1)) (xs (i + 2)) = some (r, ms'))
    (kk : ∀ (H : Heap) (locs : List Loc) (ls : Array Slot), IW g (fun q => s.heap.size ≤ q) s.heap (wCX g (wM g am ms') ad cs') H locs → lv_has ls 4 [(0, .ref b), (1, .ref (ad 0)), (2, .ref (am 0)), (3, .int (nI i))] → WL p l e s m b below meth c H locs (F0 m 1453 ls [])) : WL p l e s m b below meth c H locs (F0 m 243 ls []) := by
  obtain ⟨hx, hb, hml, hown, hts⟩ := id X.1.1
  refine lv_aload_n hx hb dL_law_243 rfl (lv_at hl 1 rfl) ?_
  refine lv_aload_n hx hb dL_law_244 rfl (lv_at hl 0 rfl) ?_
  refine lv_iload_n hx hb dL_law_245 rfl (lv_at hl 3 rfl) ?_
  refine lv_iconst (v := 1) hx hb dL_law_246 (by decide) ?_
  refine lv_iadd hx hb dL_law_247 ?_
  refine l_ld (i := i) (j := 1) X hI (by omega) (nI_add i 1) dL_law_248 ?_
  refine lv_aload_n hx hb dL_law_249 rfl (lv_at hl 0 rfl) ?_
  refine lv_iload_n hx hb dL_law_250 rfl (lv_at hl 3 rfl) ?_
  refine lv_iconst (v := 2) hx hb dL_law_251 (by decide) ?_
  refine lv_iadd hx hb dL_law_252 ?_
  refine l_ld (i := i) (j := 2) X hI (by omega) (nI_add i 2) dL_law_253 ?_
  refine l_I (rest := []) X hI (c_X5_as l g (wM g am ms) ad N (xs (i + 1)) (xs (i + 2)) cs h1) (cwV 2 hts gL_law_X5_as rfl rfl rfl hv_X5_as ⟨Nat.le_of_ble_eq_true rfl, Nat.le_of_ble_eq_true rfl⟩) (w_recv X.1 hI 0 at_C rfl) rfl hl.1 rfl (Nat.le_of_ble_eq_true rfl) dL_law_254 (fun H locs hI => ?_)
  refine lv_aload_n hx hb dL_law_257 rfl (lv_at hl 2 rfl) ?_
  refine lv_aload_n hx hb dL_law_258 rfl (lv_at hl 0 rfl) ?_
  refine lv_iload_n hx hb dL_law_259 rfl (lv_at hl 3 rfl) ?_
  refine lv_iconst (v := 1) hx hb dL_law_260 (by decide) ?_
  refine lv_iadd hx hb dL_law_261 ?_
  refine l_ld (i := i) (j := 1) X hI (by omega) (nI_add i 1) dL_law_262 ?_
  refine lv_aload_n hx hb dL_law_263 rfl (lv_at hl 0 rfl) ?_
  refine lv_iload_n hx hb dL_law_264 rfl (lv_at hl 3 rfl) ?_
  refine lv_iconst (v := 2) hx hb dL_law_265 (by decide) ?_
  refine lv_iadd hx hb dL_law_266 ?_
  refine l_ld (i := i) (j := 2) X hI (by omega) (nI_add i 2) dL_law_267 ?_
  have hI : IW g (fun q => s.heap.size ≤ q) s.heap (wMX g (wC g ad cs') am ms) H locs := hI
  refine l_I (rest := [.int r]) X hI (c_X6_as l g (wC g ad cs') am (xs (i + 1)) (xs (i + 2)) ms h2) (cwV 2 hts gL_law_X6_as rfl rfl rfl hv_X6_as ⟨Nat.le_of_ble_eq_true rfl, Nat.le_of_ble_eq_true rfl⟩) (w_recv X.1 hI (wC g ad cs').length wM_ob rfl) rfl hl.1 rfl (Nat.le_of_ble_eq_true rfl) dL_law_268 (fun H locs hI => ?_)
  have hI : IW g (fun q => s.heap.size ≤ q) s.heap (wCX g (wM g am ms') ad cs') H locs := hI
  exact lv_icmp_eq (tgt := 1453) hx hb dL_law_271 (by decide) (fun _ => kk H locs ls hI hl) (fun cz => absurd rfl cz)
set_option maxHeartbeats 4000000 in
set_option maxRecDepth 100000 in
theorem lc_2 {p : Program} {l : Launch} {e : Env} {s : State} {m : MethodId} {below : List Frame} {meth : Method} {c : Code} {H : Heap} {locs : List Loc} {b L i : Nat} {xs : Nat → Int32} {ls : Array Slot} {g : GP} {ad am : Nat → Nat} (N : Nat) {cs cs' ms ms' : St} {r : Int32} (X : LCx p s m c b L xs g) (hI : IW g (fun q => s.heap.size ≤ q) s.heap (wCX g (wM g am ms) ad cs) H locs) (hl : lv_has ls 4 [(0, .ref b), (1, .ref (ad 0)), (2, .ref (am 0)), (3, .int (nI i))]) (hi : i + 5 < L) (h1 : f_X5_goods cs (xs (i + 1)) (xs (i + 2)) = some (r, cs')) (h2 : f_X6_goods ms (xs (i + 1)) (xs (i + 2)) = some (r, ms'))
    (kk : ∀ (H : Heap) (locs : List Loc) (ls : Array Slot), IW g (fun q => s.heap.size ≤ q) s.heap (wCX g (wM g am ms') ad cs') H locs → lv_has ls 4 [(0, .ref b), (1, .ref (ad 0)), (2, .ref (am 0)), (3, .int (nI i))] → WL p l e s m b below meth c H locs (F0 m 1453 ls [])) : WL p l e s m b below meth c H locs (F0 m 276 ls []) := by
  obtain ⟨hx, hb, hml, hown, hts⟩ := id X.1.1
  refine lv_aload_n hx hb dL_law_276 rfl (lv_at hl 1 rfl) ?_
  refine lv_aload_n hx hb dL_law_277 rfl (lv_at hl 0 rfl) ?_
  refine lv_iload_n hx hb dL_law_278 rfl (lv_at hl 3 rfl) ?_
  refine lv_iconst (v := 1) hx hb dL_law_279 (by decide) ?_
  refine lv_iadd hx hb dL_law_280 ?_
  refine l_ld (i := i) (j := 1) X hI (by omega) (nI_add i 1) dL_law_281 ?_
  refine lv_aload_n hx hb dL_law_282 rfl (lv_at hl 0 rfl) ?_
  refine lv_iload_n hx hb dL_law_283 rfl (lv_at hl 3 rfl) ?_
  refine lv_iconst (v := 2) hx hb dL_law_284 (by decide) ?_
  refine lv_iadd hx hb dL_law_285 ?_
  refine l_ld (i := i) (j := 2) X hI (by omega) (nI_add i 2) dL_law_286 ?_
  refine l_I (rest := []) X hI (c_X5_goods l g (wM g am ms) ad (xs (i + 1)) (xs (i + 2)) cs h1) (cwV 2 hts gL_law_X5_goods rfl rfl rfl hv_X5_goods ⟨Nat.le_of_ble_eq_true rfl, Nat.le_of_ble_eq_true rfl⟩) (w_recv X.1 hI 0 at_C rfl) rfl hl.1 rfl (Nat.le_of_ble_eq_true rfl) dL_law_287 (fun H locs hI => ?_)
  refine lv_aload_n hx hb dL_law_290 rfl (lv_at hl 2 rfl) ?_
  refine lv_aload_n hx hb dL_law_291 rfl (lv_at hl 0 rfl) ?_
  refine lv_iload_n hx hb dL_law_292 rfl (lv_at hl 3 rfl) ?_
  refine lv_iconst (v := 1) hx hb dL_law_293 (by decide) ?_
  refine lv_iadd hx hb dL_law_294 ?_
  refine l_ld (i := i) (j := 1) X hI (by omega) (nI_add i 1) dL_law_295 ?_
  refine lv_aload_n hx hb dL_law_296 rfl (lv_at hl 0 rfl) ?_
  refine lv_iload_n hx hb dL_law_297 rfl (lv_at hl 3 rfl) ?_
  refine lv_iconst (v := 2) hx hb dL_law_298 (by decide) ?_
  refine lv_iadd hx hb dL_law_299 ?_
  refine l_ld (i := i) (j := 2) X hI (by omega) (nI_add i 2) dL_law_300 ?_
  have hI : IW g (fun q => s.heap.size ≤ q) s.heap (wMX g (wC g ad cs') am ms) H locs := hI
  refine l_I (rest := [.int r]) X hI (c_X6_goods l g (wC g ad cs') am (xs (i + 1)) (xs (i + 2)) ms h2) (cwV 2 hts gL_law_X6_goods rfl rfl rfl hv_X6_goods ⟨Nat.le_of_ble_eq_true rfl, Nat.le_of_ble_eq_true rfl⟩) (w_recv X.1 hI (wC g ad cs').length wM_ob rfl) rfl hl.1 rfl (Nat.le_of_ble_eq_true rfl) dL_law_301 (fun H locs hI => ?_)
  have hI : IW g (fun q => s.heap.size ≤ q) s.heap (wCX g (wM g am ms') ad cs') H locs := hI
  exact lv_icmp_eq (tgt := 1453) hx hb dL_law_304 (by decide) (fun _ => kk H locs ls hI hl) (fun cz => absurd rfl cz)
set_option maxHeartbeats 4000000 in
set_option maxRecDepth 100000 in
theorem lc_3 {p : Program} {l : Launch} {e : Env} {s : State} {m : MethodId} {below : List Frame} {meth : Method} {c : Code} {H : Heap} {locs : List Loc} {b L i : Nat} {xs : Nat → Int32} {ls : Array Slot} {g : GP} {ad am : Nat → Nat} (N : Nat) {cs cs' ms ms' : St} {r : Int32} (X : LCx p s m c b L xs g) (hI : IW g (fun q => s.heap.size ≤ q) s.heap (wCX g (wM g am ms) ad cs) H locs) (hl : lv_has ls 4 [(0, .ref b), (1, .ref (ad 0)), (2, .ref (am 0)), (3, .int (nI i))]) (hi : i + 5 < L) (h1 : f_X5_of N cs (xs (i + 1)) (xs (i + 2)) = some (r, cs')) (h2 : f_X6_of N ms (xs (i + 1)) (xs (i + 2)) = some (r, ms'))
    (kk : ∀ (H : Heap) (locs : List Loc) (ls : Array Slot), IW g (fun q => s.heap.size ≤ q) s.heap (wCX g (wM g am ms') ad cs') H locs → lv_has ls 4 [(0, .ref b), (1, .ref (ad 0)), (2, .ref (am 0)), (3, .int (nI i))] → WL p l e s m b below meth c H locs (F0 m 1453 ls [])) : WL p l e s m b below meth c H locs (F0 m 309 ls []) := by
  obtain ⟨hx, hb, hml, hown, hts⟩ := id X.1.1
  refine lv_aload_n hx hb dL_law_309 rfl (lv_at hl 1 rfl) ?_
  refine lv_aload_n hx hb dL_law_310 rfl (lv_at hl 0 rfl) ?_
  refine lv_iload_n hx hb dL_law_311 rfl (lv_at hl 3 rfl) ?_
  refine lv_iconst (v := 1) hx hb dL_law_312 (by decide) ?_
  refine lv_iadd hx hb dL_law_313 ?_
  refine l_ld (i := i) (j := 1) X hI (by omega) (nI_add i 1) dL_law_314 ?_
  refine lv_aload_n hx hb dL_law_315 rfl (lv_at hl 0 rfl) ?_
  refine lv_iload_n hx hb dL_law_316 rfl (lv_at hl 3 rfl) ?_
  refine lv_iconst (v := 2) hx hb dL_law_317 (by decide) ?_
  refine lv_iadd hx hb dL_law_318 ?_
  refine l_ld (i := i) (j := 2) X hI (by omega) (nI_add i 2) dL_law_319 ?_
  refine l_I (rest := []) X hI (c_X5_of l g (wM g am ms) ad N (xs (i + 1)) (xs (i + 2)) cs h1) (cwV 2 hts gL_law_X5_of rfl rfl rfl hv_X5_of ⟨Nat.le_of_ble_eq_true rfl, Nat.le_of_ble_eq_true rfl⟩) (w_recv X.1 hI 0 at_C rfl) rfl hl.1 rfl (Nat.le_of_ble_eq_true rfl) dL_law_320 (fun H locs hI => ?_)
  refine lv_aload_n hx hb dL_law_323 rfl (lv_at hl 2 rfl) ?_
  refine lv_aload_n hx hb dL_law_324 rfl (lv_at hl 0 rfl) ?_
  refine lv_iload_n hx hb dL_law_325 rfl (lv_at hl 3 rfl) ?_
  refine lv_iconst (v := 1) hx hb dL_law_326 (by decide) ?_
  refine lv_iadd hx hb dL_law_327 ?_
  refine l_ld (i := i) (j := 1) X hI (by omega) (nI_add i 1) dL_law_328 ?_
  refine lv_aload_n hx hb dL_law_329 rfl (lv_at hl 0 rfl) ?_
  refine lv_iload_n hx hb dL_law_330 rfl (lv_at hl 3 rfl) ?_
  refine lv_iconst (v := 2) hx hb dL_law_331 (by decide) ?_
  refine lv_iadd hx hb dL_law_332 ?_
  refine l_ld (i := i) (j := 2) X hI (by omega) (nI_add i 2) dL_law_333 ?_
  have hI : IW g (fun q => s.heap.size ≤ q) s.heap (wMX g (wC g ad cs') am ms) H locs := hI
  refine l_I (rest := [.int r]) X hI (c_X6_of l g (wC g ad cs') am N (xs (i + 1)) (xs (i + 2)) ms h2) (cwV 2 hts gL_law_X6_of rfl rfl rfl hv_X6_of ⟨Nat.le_of_ble_eq_true rfl, Nat.le_of_ble_eq_true rfl⟩) (w_recv X.1 hI (wC g ad cs').length wM_ob rfl) rfl hl.1 rfl (Nat.le_of_ble_eq_true rfl) dL_law_334 (fun H locs hI => ?_)
  have hI : IW g (fun q => s.heap.size ≤ q) s.heap (wCX g (wM g am ms') ad cs') H locs := hI
  exact lv_icmp_eq (tgt := 1453) hx hb dL_law_337 (by decide) (fun _ => kk H locs ls hI hl) (fun cz => absurd rfl cz)
set_option maxHeartbeats 4000000 in
set_option maxRecDepth 100000 in
theorem lc_4 {p : Program} {l : Launch} {e : Env} {s : State} {m : MethodId} {below : List Frame} {meth : Method} {c : Code} {H : Heap} {locs : List Loc} {b L i : Nat} {xs : Nat → Int32} {ls : Array Slot} {g : GP} {ad am : Nat → Nat} (N : Nat) {cs cs' ms ms' : St} {r : Int32} (X : LCx p s m c b L xs g) (hI : IW g (fun q => s.heap.size ≤ q) s.heap (wCX g (wM g am ms) ad cs) H locs) (hl : lv_has ls 4 [(0, .ref b), (1, .ref (ad 0)), (2, .ref (am 0)), (3, .int (nI i))]) (hi : i + 5 < L) (h1 : f_X5_span cs (xs (i + 1)) (xs (i + 2)) (xs (i + 3)) = some (r, cs')) (h2 : f_X6_span ms (xs (i + 1)) (xs (i + 2)) (xs (i + 3)) = some (r, ms'))
    (kk : ∀ (H : Heap) (locs : List Loc) (ls : Array Slot), IW g (fun q => s.heap.size ≤ q) s.heap (wCX g (wM g am ms') ad cs') H locs → lv_has ls 4 [(0, .ref b), (1, .ref (ad 0)), (2, .ref (am 0)), (3, .int (nI i))] → WL p l e s m b below meth c H locs (F0 m 1453 ls [])) : WL p l e s m b below meth c H locs (F0 m 342 ls []) := by
  obtain ⟨hx, hb, hml, hown, hts⟩ := id X.1.1
  refine lv_aload_n hx hb dL_law_342 rfl (lv_at hl 1 rfl) ?_
  refine lv_aload_n hx hb dL_law_343 rfl (lv_at hl 0 rfl) ?_
  refine lv_iload_n hx hb dL_law_344 rfl (lv_at hl 3 rfl) ?_
  refine lv_iconst (v := 1) hx hb dL_law_345 (by decide) ?_
  refine lv_iadd hx hb dL_law_346 ?_
  refine l_ld (i := i) (j := 1) X hI (by omega) (nI_add i 1) dL_law_347 ?_
  refine lv_aload_n hx hb dL_law_348 rfl (lv_at hl 0 rfl) ?_
  refine lv_iload_n hx hb dL_law_349 rfl (lv_at hl 3 rfl) ?_
  refine lv_iconst (v := 2) hx hb dL_law_350 (by decide) ?_
  refine lv_iadd hx hb dL_law_351 ?_
  refine l_ld (i := i) (j := 2) X hI (by omega) (nI_add i 2) dL_law_352 ?_
  refine lv_aload_n hx hb dL_law_353 rfl (lv_at hl 0 rfl) ?_
  refine lv_iload_n hx hb dL_law_354 rfl (lv_at hl 3 rfl) ?_
  refine lv_iconst (v := 3) hx hb dL_law_355 (by decide) ?_
  refine lv_iadd hx hb dL_law_356 ?_
  refine l_ld (i := i) (j := 3) X hI (by omega) (nI_add i 3) dL_law_357 ?_
  refine l_I (rest := []) X hI (c_X5_span l g (wM g am ms) ad (xs (i + 1)) (xs (i + 2)) (xs (i + 3)) cs h1) (cwV 3 hts gL_law_X5_span rfl rfl rfl hv_X5_span ⟨Nat.le_of_ble_eq_true rfl, Nat.le_of_ble_eq_true rfl⟩) (w_recv X.1 hI 0 at_C rfl) rfl hl.1 rfl (Nat.le_of_ble_eq_true rfl) dL_law_358 (fun H locs hI => ?_)
  refine lv_aload_n hx hb dL_law_361 rfl (lv_at hl 2 rfl) ?_
  refine lv_aload_n hx hb dL_law_362 rfl (lv_at hl 0 rfl) ?_
  refine lv_iload_n hx hb dL_law_363 rfl (lv_at hl 3 rfl) ?_
  refine lv_iconst (v := 1) hx hb dL_law_364 (by decide) ?_
  refine lv_iadd hx hb dL_law_365 ?_
  refine l_ld (i := i) (j := 1) X hI (by omega) (nI_add i 1) dL_law_366 ?_
  refine lv_aload_n hx hb dL_law_367 rfl (lv_at hl 0 rfl) ?_
  refine lv_iload_n hx hb dL_law_368 rfl (lv_at hl 3 rfl) ?_
  refine lv_iconst (v := 2) hx hb dL_law_369 (by decide) ?_
  refine lv_iadd hx hb dL_law_370 ?_
  refine l_ld (i := i) (j := 2) X hI (by omega) (nI_add i 2) dL_law_371 ?_
  refine lv_aload_n hx hb dL_law_372 rfl (lv_at hl 0 rfl) ?_
  refine lv_iload_n hx hb dL_law_373 rfl (lv_at hl 3 rfl) ?_
  refine lv_iconst (v := 3) hx hb dL_law_374 (by decide) ?_
  refine lv_iadd hx hb dL_law_375 ?_
  refine l_ld (i := i) (j := 3) X hI (by omega) (nI_add i 3) dL_law_376 ?_
  have hI : IW g (fun q => s.heap.size ≤ q) s.heap (wMX g (wC g ad cs') am ms) H locs := hI
  refine l_I (rest := [.int r]) X hI (c_X6_span l g (wC g ad cs') am (xs (i + 1)) (xs (i + 2)) (xs (i + 3)) ms h2) (cwV 3 hts gL_law_X6_span rfl rfl rfl hv_X6_span ⟨Nat.le_of_ble_eq_true rfl, Nat.le_of_ble_eq_true rfl⟩) (w_recv X.1 hI (wC g ad cs').length wM_ob rfl) rfl hl.1 rfl (Nat.le_of_ble_eq_true rfl) dL_law_377 (fun H locs hI => ?_)
  have hI : IW g (fun q => s.heap.size ≤ q) s.heap (wCX g (wM g am ms') ad cs') H locs := hI
  exact lv_icmp_eq (tgt := 1453) hx hb dL_law_380 (by decide) (fun _ => kk H locs ls hI hl) (fun cz => absurd rfl cz)
set_option maxHeartbeats 4000000 in
set_option maxRecDepth 100000 in
theorem lc_5 {p : Program} {l : Launch} {e : Env} {s : State} {m : MethodId} {below : List Frame} {meth : Method} {c : Code} {H : Heap} {locs : List Loc} {b L i : Nat} {xs : Nat → Int32} {ls : Array Slot} {g : GP} {ad am : Nat → Nat} (N : Nat) {cs cs' ms ms' : St} {r : Int32} (X : LCx p s m c b L xs g) (hI : IW g (fun q => s.heap.size ≤ q) s.heap (wCX g (wM g am ms) ad cs) H locs) (hl : lv_has ls 4 [(0, .ref b), (1, .ref (ad 0)), (2, .ref (am 0)), (3, .int (nI i))]) (hi : i + 5 < L) (h1 : f_X5_coin N cs (xs (i + 1)) (xs (i + 2)) = some (r, cs')) (h2 : f_X6_coin ms (xs (i + 1)) (xs (i + 2)) = some (r, ms'))
    (kk : ∀ (H : Heap) (locs : List Loc) (ls : Array Slot), IW g (fun q => s.heap.size ≤ q) s.heap (wCX g (wM g am ms') ad cs') H locs → lv_has ls 4 [(0, .ref b), (1, .ref (ad 0)), (2, .ref (am 0)), (3, .int (nI i))] → WL p l e s m b below meth c H locs (F0 m 1453 ls [])) : WL p l e s m b below meth c H locs (F0 m 385 ls []) := by
  obtain ⟨hx, hb, hml, hown, hts⟩ := id X.1.1
  refine lv_aload_n hx hb dL_law_385 rfl (lv_at hl 1 rfl) ?_
  refine lv_aload_n hx hb dL_law_386 rfl (lv_at hl 0 rfl) ?_
  refine lv_iload_n hx hb dL_law_387 rfl (lv_at hl 3 rfl) ?_
  refine lv_iconst (v := 1) hx hb dL_law_388 (by decide) ?_
  refine lv_iadd hx hb dL_law_389 ?_
  refine l_ld (i := i) (j := 1) X hI (by omega) (nI_add i 1) dL_law_390 ?_
  refine lv_aload_n hx hb dL_law_391 rfl (lv_at hl 0 rfl) ?_
  refine lv_iload_n hx hb dL_law_392 rfl (lv_at hl 3 rfl) ?_
  refine lv_iconst (v := 2) hx hb dL_law_393 (by decide) ?_
  refine lv_iadd hx hb dL_law_394 ?_
  refine l_ld (i := i) (j := 2) X hI (by omega) (nI_add i 2) dL_law_395 ?_
  refine l_I (rest := []) X hI (c_X5_coin l g (wM g am ms) ad N (xs (i + 1)) (xs (i + 2)) cs h1) (cwV 2 hts gL_law_X5_coin rfl rfl rfl hv_X5_coin ⟨Nat.le_of_ble_eq_true rfl, Nat.le_of_ble_eq_true rfl⟩) (w_recv X.1 hI 0 at_C rfl) rfl hl.1 rfl (Nat.le_of_ble_eq_true rfl) dL_law_396 (fun H locs hI => ?_)
  refine lv_aload_n hx hb dL_law_399 rfl (lv_at hl 2 rfl) ?_
  refine lv_aload_n hx hb dL_law_400 rfl (lv_at hl 0 rfl) ?_
  refine lv_iload_n hx hb dL_law_401 rfl (lv_at hl 3 rfl) ?_
  refine lv_iconst (v := 1) hx hb dL_law_402 (by decide) ?_
  refine lv_iadd hx hb dL_law_403 ?_
  refine l_ld (i := i) (j := 1) X hI (by omega) (nI_add i 1) dL_law_404 ?_
  refine lv_aload_n hx hb dL_law_405 rfl (lv_at hl 0 rfl) ?_
  refine lv_iload_n hx hb dL_law_406 rfl (lv_at hl 3 rfl) ?_
  refine lv_iconst (v := 2) hx hb dL_law_407 (by decide) ?_
  refine lv_iadd hx hb dL_law_408 ?_
  refine l_ld (i := i) (j := 2) X hI (by omega) (nI_add i 2) dL_law_409 ?_
  have hI : IW g (fun q => s.heap.size ≤ q) s.heap (wMX g (wC g ad cs') am ms) H locs := hI
  refine l_I (rest := [.int r]) X hI (c_X6_coin l g (wC g ad cs') am (xs (i + 1)) (xs (i + 2)) ms h2) (cwV 2 hts gL_law_X6_coin rfl rfl rfl hv_X6_coin ⟨Nat.le_of_ble_eq_true rfl, Nat.le_of_ble_eq_true rfl⟩) (w_recv X.1 hI (wC g ad cs').length wM_ob rfl) rfl hl.1 rfl (Nat.le_of_ble_eq_true rfl) dL_law_410 (fun H locs hI => ?_)
  have hI : IW g (fun q => s.heap.size ≤ q) s.heap (wCX g (wM g am ms') ad cs') H locs := hI
  exact lv_icmp_eq (tgt := 1453) hx hb dL_law_413 (by decide) (fun _ => kk H locs ls hI hl) (fun cz => absurd rfl cz)
set_option maxHeartbeats 4000000 in
set_option maxRecDepth 100000 in
theorem lc_6 {p : Program} {l : Launch} {e : Env} {s : State} {m : MethodId} {below : List Frame} {meth : Method} {c : Code} {H : Heap} {locs : List Loc} {b L i : Nat} {xs : Nat → Int32} {ls : Array Slot} {g : GP} {ad am : Nat → Nat} (N : Nat) {cs cs' ms ms' : St} {r : Int32} (X : LCx p s m c b L xs g) (hI : IW g (fun q => s.heap.size ≤ q) s.heap (wCX g (wM g am ms) ad cs) H locs) (hl : lv_has ls 4 [(0, .ref b), (1, .ref (ad 0)), (2, .ref (am 0)), (3, .int (nI i))]) (hi : i + 5 < L) (h1 : f_X5_cut N cs (xs (i + 1)) (xs (i + 2)) (bz (xs (i + 3))) = some (r, cs')) (h2 : f_X6_cut N ms (xs (i + 1)) (xs (i + 2)) (bz (xs (i + 3))) = some (r, ms'))
    (kk : ∀ (H : Heap) (locs : List Loc) (ls : Array Slot), IW g (fun q => s.heap.size ≤ q) s.heap (wCX g (wM g am ms') ad cs') H locs → lv_has ls 4 [(0, .ref b), (1, .ref (ad 0)), (2, .ref (am 0)), (3, .int (nI i))] → WL p l e s m b below meth c H locs (F0 m 1453 ls [])) : WL p l e s m b below meth c H locs (F0 m 418 ls []) := by
  obtain ⟨hx, hb, hml, hown, hts⟩ := id X.1.1
  by_cases cb3 : xs (i + 3) = 0
  · rw [bz_0 cb3] at h1 h2
    refine lv_aload_n hx hb dL_law_418 rfl (lv_at hl 1 rfl) ?_
    refine lv_aload_n hx hb dL_law_419 rfl (lv_at hl 0 rfl) ?_
    refine lv_iload_n hx hb dL_law_420 rfl (lv_at hl 3 rfl) ?_
    refine lv_iconst (v := 1) hx hb dL_law_421 (by decide) ?_
    refine lv_iadd hx hb dL_law_422 ?_
    refine l_ld (i := i) (j := 1) X hI (by omega) (nI_add i 1) dL_law_423 ?_
    refine lv_aload_n hx hb dL_law_424 rfl (lv_at hl 0 rfl) ?_
    refine lv_iload_n hx hb dL_law_425 rfl (lv_at hl 3 rfl) ?_
    refine lv_iconst (v := 2) hx hb dL_law_426 (by decide) ?_
    refine lv_iadd hx hb dL_law_427 ?_
    refine l_ld (i := i) (j := 2) X hI (by omega) (nI_add i 2) dL_law_428 ?_
    refine lv_aload_n hx hb dL_law_429 rfl (lv_at hl 0 rfl) ?_
    refine lv_iload_n hx hb dL_law_430 rfl (lv_at hl 3 rfl) ?_
    refine lv_iconst (v := 3) hx hb dL_law_431 (by decide) ?_
    refine lv_iadd hx hb dL_law_432 ?_
    refine l_ld (i := i) (j := 3) X hI (by omega) (nI_add i 3) dL_law_433 ?_
    refine lv_if_eq (tgt := 441) hx hb dL_law_434 (by decide) (fun _ => ?_) (fun cz => absurd cb3 cz)
    refine lv_iconst (v := 0) hx hb dL_law_441 (by decide) ?_
    refine l_I (rest := []) X hI (c_X5_cut l g (wM g am ms) ad N (xs (i + 1)) (xs (i + 2)) false cs h1) (cwV 3 hts gL_law_X5_cut rfl rfl rfl hv_X5_cut ⟨Nat.le_of_ble_eq_true rfl, Nat.le_of_ble_eq_true rfl⟩) (w_recv X.1 hI 0 at_C rfl) rfl hl.1 rfl (Nat.le_of_ble_eq_true rfl) dL_law_442 (fun H locs hI => ?_)
    refine lv_aload_n hx hb dL_law_445 rfl (lv_at hl 2 rfl) ?_
    refine lv_aload_n hx hb dL_law_446 rfl (lv_at hl 0 rfl) ?_
    refine lv_iload_n hx hb dL_law_447 rfl (lv_at hl 3 rfl) ?_
    refine lv_iconst (v := 1) hx hb dL_law_448 (by decide) ?_
    refine lv_iadd hx hb dL_law_449 ?_
    refine l_ld (i := i) (j := 1) X hI (by omega) (nI_add i 1) dL_law_450 ?_
    refine lv_aload_n hx hb dL_law_451 rfl (lv_at hl 0 rfl) ?_
    refine lv_iload_n hx hb dL_law_452 rfl (lv_at hl 3 rfl) ?_
    refine lv_iconst (v := 2) hx hb dL_law_453 (by decide) ?_
    refine lv_iadd hx hb dL_law_454 ?_
    refine l_ld (i := i) (j := 2) X hI (by omega) (nI_add i 2) dL_law_455 ?_
    refine lv_aload_n hx hb dL_law_456 rfl (lv_at hl 0 rfl) ?_
    refine lv_iload_n hx hb dL_law_457 rfl (lv_at hl 3 rfl) ?_
    refine lv_iconst (v := 3) hx hb dL_law_458 (by decide) ?_
    refine lv_iadd hx hb dL_law_459 ?_
    refine l_ld (i := i) (j := 3) X hI (by omega) (nI_add i 3) dL_law_460 ?_
    refine lv_if_eq (tgt := 468) hx hb dL_law_461 (by decide) (fun _ => ?_) (fun cz => absurd cb3 cz)
    refine lv_iconst (v := 0) hx hb dL_law_468 (by decide) ?_
    have hI : IW g (fun q => s.heap.size ≤ q) s.heap (wMX g (wC g ad cs') am ms) H locs := hI
    refine l_I (rest := [.int r]) X hI (c_X6_cut l g (wC g ad cs') am N (xs (i + 1)) (xs (i + 2)) false ms h2) (cwV 3 hts gL_law_X6_cut rfl rfl rfl hv_X6_cut ⟨Nat.le_of_ble_eq_true rfl, Nat.le_of_ble_eq_true rfl⟩) (w_recv X.1 hI (wC g ad cs').length wM_ob rfl) rfl hl.1 rfl (Nat.le_of_ble_eq_true rfl) dL_law_469 (fun H locs hI => ?_)
    have hI : IW g (fun q => s.heap.size ≤ q) s.heap (wCX g (wM g am ms') ad cs') H locs := hI
    exact lv_icmp_eq (tgt := 1453) hx hb dL_law_472 (by decide) (fun _ => kk H locs ls hI hl) (fun cz => absurd rfl cz)
  · rw [bz_1 cb3] at h1 h2
    refine lv_aload_n hx hb dL_law_418 rfl (lv_at hl 1 rfl) ?_
    refine lv_aload_n hx hb dL_law_419 rfl (lv_at hl 0 rfl) ?_
    refine lv_iload_n hx hb dL_law_420 rfl (lv_at hl 3 rfl) ?_
    refine lv_iconst (v := 1) hx hb dL_law_421 (by decide) ?_
    refine lv_iadd hx hb dL_law_422 ?_
    refine l_ld (i := i) (j := 1) X hI (by omega) (nI_add i 1) dL_law_423 ?_
    refine lv_aload_n hx hb dL_law_424 rfl (lv_at hl 0 rfl) ?_
    refine lv_iload_n hx hb dL_law_425 rfl (lv_at hl 3 rfl) ?_
    refine lv_iconst (v := 2) hx hb dL_law_426 (by decide) ?_
    refine lv_iadd hx hb dL_law_427 ?_
    refine l_ld (i := i) (j := 2) X hI (by omega) (nI_add i 2) dL_law_428 ?_
    refine lv_aload_n hx hb dL_law_429 rfl (lv_at hl 0 rfl) ?_
    refine lv_iload_n hx hb dL_law_430 rfl (lv_at hl 3 rfl) ?_
    refine lv_iconst (v := 3) hx hb dL_law_431 (by decide) ?_
    refine lv_iadd hx hb dL_law_432 ?_
    refine l_ld (i := i) (j := 3) X hI (by omega) (nI_add i 3) dL_law_433 ?_
    refine lv_if_eq (tgt := 441) hx hb dL_law_434 (by decide) (fun cz => absurd cz cb3) (fun _ => ?_)
    refine lv_iconst (v := 1) hx hb dL_law_437 (by decide) ?_
    refine lv_goto (tgt := 442) hx hb dL_law_438 (by decide) ?_
    refine l_I (rest := []) X hI (c_X5_cut l g (wM g am ms) ad N (xs (i + 1)) (xs (i + 2)) true cs h1) (cwV 3 hts gL_law_X5_cut rfl rfl rfl hv_X5_cut ⟨Nat.le_of_ble_eq_true rfl, Nat.le_of_ble_eq_true rfl⟩) (w_recv X.1 hI 0 at_C rfl) rfl hl.1 rfl (Nat.le_of_ble_eq_true rfl) dL_law_442 (fun H locs hI => ?_)
    refine lv_aload_n hx hb dL_law_445 rfl (lv_at hl 2 rfl) ?_
    refine lv_aload_n hx hb dL_law_446 rfl (lv_at hl 0 rfl) ?_
    refine lv_iload_n hx hb dL_law_447 rfl (lv_at hl 3 rfl) ?_
    refine lv_iconst (v := 1) hx hb dL_law_448 (by decide) ?_
    refine lv_iadd hx hb dL_law_449 ?_
    refine l_ld (i := i) (j := 1) X hI (by omega) (nI_add i 1) dL_law_450 ?_
    refine lv_aload_n hx hb dL_law_451 rfl (lv_at hl 0 rfl) ?_
    refine lv_iload_n hx hb dL_law_452 rfl (lv_at hl 3 rfl) ?_
    refine lv_iconst (v := 2) hx hb dL_law_453 (by decide) ?_
    refine lv_iadd hx hb dL_law_454 ?_
    refine l_ld (i := i) (j := 2) X hI (by omega) (nI_add i 2) dL_law_455 ?_
    refine lv_aload_n hx hb dL_law_456 rfl (lv_at hl 0 rfl) ?_
    refine lv_iload_n hx hb dL_law_457 rfl (lv_at hl 3 rfl) ?_
    refine lv_iconst (v := 3) hx hb dL_law_458 (by decide) ?_
    refine lv_iadd hx hb dL_law_459 ?_
    refine l_ld (i := i) (j := 3) X hI (by omega) (nI_add i 3) dL_law_460 ?_
    refine lv_if_eq (tgt := 468) hx hb dL_law_461 (by decide) (fun cz => absurd cz cb3) (fun _ => ?_)
    refine lv_iconst (v := 1) hx hb dL_law_464 (by decide) ?_
    refine lv_goto (tgt := 469) hx hb dL_law_465 (by decide) ?_
    have hI : IW g (fun q => s.heap.size ≤ q) s.heap (wMX g (wC g ad cs') am ms) H locs := hI
    refine l_I (rest := [.int r]) X hI (c_X6_cut l g (wC g ad cs') am N (xs (i + 1)) (xs (i + 2)) true ms h2) (cwV 3 hts gL_law_X6_cut rfl rfl rfl hv_X6_cut ⟨Nat.le_of_ble_eq_true rfl, Nat.le_of_ble_eq_true rfl⟩) (w_recv X.1 hI (wC g ad cs').length wM_ob rfl) rfl hl.1 rfl (Nat.le_of_ble_eq_true rfl) dL_law_469 (fun H locs hI => ?_)
    have hI : IW g (fun q => s.heap.size ≤ q) s.heap (wCX g (wM g am ms') ad cs') H locs := hI
    exact lv_icmp_eq (tgt := 1453) hx hb dL_law_472 (by decide) (fun _ => kk H locs ls hI hl) (fun cz => absurd rfl cz)
set_option maxHeartbeats 4000000 in
set_option maxRecDepth 100000 in
theorem lc_7 {p : Program} {l : Launch} {e : Env} {s : State} {m : MethodId} {below : List Frame} {meth : Method} {c : Code} {H : Heap} {locs : List Loc} {b L i : Nat} {xs : Nat → Int32} {ls : Array Slot} {g : GP} {ad am : Nat → Nat} (N : Nat) {cs cs' ms ms' : St} {r : Int32} (X : LCx p s m c b L xs g) (hI : IW g (fun q => s.heap.size ≤ q) s.heap (wCX g (wM g am ms) ad cs) H locs) (hl : lv_has ls 4 [(0, .ref b), (1, .ref (ad 0)), (2, .ref (am 0)), (3, .int (nI i))]) (hi : i + 5 < L) (h1 : f_X5_later N cs (xs (i + 1)) (xs (i + 2)) = some (r, cs')) (h2 : f_X6_later N ms (xs (i + 1)) (xs (i + 2)) = some (r, ms'))
    (kk : ∀ (H : Heap) (locs : List Loc) (ls : Array Slot), IW g (fun q => s.heap.size ≤ q) s.heap (wCX g (wM g am ms') ad cs') H locs → lv_has ls 4 [(0, .ref b), (1, .ref (ad 0)), (2, .ref (am 0)), (3, .int (nI i))] → WL p l e s m b below meth c H locs (F0 m 1453 ls [])) : WL p l e s m b below meth c H locs (F0 m 477 ls []) := by
  obtain ⟨hx, hb, hml, hown, hts⟩ := id X.1.1
  refine lv_aload_n hx hb dL_law_477 rfl (lv_at hl 1 rfl) ?_
  refine lv_aload_n hx hb dL_law_478 rfl (lv_at hl 0 rfl) ?_
  refine lv_iload_n hx hb dL_law_479 rfl (lv_at hl 3 rfl) ?_
  refine lv_iconst (v := 1) hx hb dL_law_480 (by decide) ?_
  refine lv_iadd hx hb dL_law_481 ?_
  refine l_ld (i := i) (j := 1) X hI (by omega) (nI_add i 1) dL_law_482 ?_
  refine lv_aload_n hx hb dL_law_483 rfl (lv_at hl 0 rfl) ?_
  refine lv_iload_n hx hb dL_law_484 rfl (lv_at hl 3 rfl) ?_
  refine lv_iconst (v := 2) hx hb dL_law_485 (by decide) ?_
  refine lv_iadd hx hb dL_law_486 ?_
  refine l_ld (i := i) (j := 2) X hI (by omega) (nI_add i 2) dL_law_487 ?_
  refine l_I (rest := []) X hI (c_X5_later l g (wM g am ms) ad N (xs (i + 1)) (xs (i + 2)) cs h1) (cwV 2 hts gL_law_X5_later rfl rfl rfl hv_X5_later ⟨Nat.le_of_ble_eq_true rfl, Nat.le_of_ble_eq_true rfl⟩) (w_recv X.1 hI 0 at_C rfl) rfl hl.1 rfl (Nat.le_of_ble_eq_true rfl) dL_law_488 (fun H locs hI => ?_)
  refine lv_aload_n hx hb dL_law_491 rfl (lv_at hl 2 rfl) ?_
  refine lv_aload_n hx hb dL_law_492 rfl (lv_at hl 0 rfl) ?_
  refine lv_iload_n hx hb dL_law_493 rfl (lv_at hl 3 rfl) ?_
  refine lv_iconst (v := 1) hx hb dL_law_494 (by decide) ?_
  refine lv_iadd hx hb dL_law_495 ?_
  refine l_ld (i := i) (j := 1) X hI (by omega) (nI_add i 1) dL_law_496 ?_
  refine lv_aload_n hx hb dL_law_497 rfl (lv_at hl 0 rfl) ?_
  refine lv_iload_n hx hb dL_law_498 rfl (lv_at hl 3 rfl) ?_
  refine lv_iconst (v := 2) hx hb dL_law_499 (by decide) ?_
  refine lv_iadd hx hb dL_law_500 ?_
  refine l_ld (i := i) (j := 2) X hI (by omega) (nI_add i 2) dL_law_501 ?_
  have hI : IW g (fun q => s.heap.size ≤ q) s.heap (wMX g (wC g ad cs') am ms) H locs := hI
  refine l_I (rest := [.int r]) X hI (c_X6_later l g (wC g ad cs') am N (xs (i + 1)) (xs (i + 2)) ms h2) (cwV 2 hts gL_law_X6_later rfl rfl rfl hv_X6_later ⟨Nat.le_of_ble_eq_true rfl, Nat.le_of_ble_eq_true rfl⟩) (w_recv X.1 hI (wC g ad cs').length wM_ob rfl) rfl hl.1 rfl (Nat.le_of_ble_eq_true rfl) dL_law_502 (fun H locs hI => ?_)
  have hI : IW g (fun q => s.heap.size ≤ q) s.heap (wCX g (wM g am ms') ad cs') H locs := hI
  exact lv_icmp_eq (tgt := 1453) hx hb dL_law_505 (by decide) (fun _ => kk H locs ls hI hl) (fun cz => absurd rfl cz)
set_option maxHeartbeats 4000000 in
set_option maxRecDepth 100000 in
theorem lc_8 {p : Program} {l : Launch} {e : Env} {s : State} {m : MethodId} {below : List Frame} {meth : Method} {c : Code} {H : Heap} {locs : List Loc} {b L i : Nat} {xs : Nat → Int32} {ls : Array Slot} {g : GP} {ad am : Nat → Nat} (N : Nat) {cs cs' ms ms' : St} {r : Int32} (X : LCx p s m c b L xs g) (hI : IW g (fun q => s.heap.size ≤ q) s.heap (wCX g (wM g am ms) ad cs) H locs) (hl : lv_has ls 4 [(0, .ref b), (1, .ref (ad 0)), (2, .ref (am 0)), (3, .int (nI i))]) (hi : i + 5 < L) (h1 : f_X5_fill N cs = some (r, cs')) (h2 : f_X6_fill N ms = some (r, ms'))
    (kk : ∀ (H : Heap) (locs : List Loc) (ls : Array Slot), IW g (fun q => s.heap.size ≤ q) s.heap (wCX g (wM g am ms') ad cs') H locs → lv_has ls 4 [(0, .ref b), (1, .ref (ad 0)), (2, .ref (am 0)), (3, .int (nI i))] → WL p l e s m b below meth c H locs (F0 m 1453 ls [])) : WL p l e s m b below meth c H locs (F0 m 510 ls []) := by
  obtain ⟨hx, hb, hml, hown, hts⟩ := id X.1.1
  refine lv_aload_n hx hb dL_law_510 rfl (lv_at hl 1 rfl) ?_
  refine l_I (rest := []) X hI (c_X5_fill l g (wM g am ms) ad N cs h1) (cwV 0 hts gL_law_X5_fill rfl rfl rfl hv_X5_fill ⟨Nat.le_of_ble_eq_true rfl, Nat.le_of_ble_eq_true rfl⟩) (w_recv X.1 hI 0 at_C rfl) rfl hl.1 rfl (Nat.le_of_ble_eq_true rfl) dL_law_511 (fun H locs hI => ?_)
  refine lv_aload_n hx hb dL_law_514 rfl (lv_at hl 2 rfl) ?_
  have hI : IW g (fun q => s.heap.size ≤ q) s.heap (wMX g (wC g ad cs') am ms) H locs := hI
  refine l_I (rest := [.int r]) X hI (c_X6_fill l g (wC g ad cs') am N ms h2) (cwV 0 hts gL_law_X6_fill rfl rfl rfl hv_X6_fill ⟨Nat.le_of_ble_eq_true rfl, Nat.le_of_ble_eq_true rfl⟩) (w_recv X.1 hI (wC g ad cs').length wM_ob rfl) rfl hl.1 rfl (Nat.le_of_ble_eq_true rfl) dL_law_515 (fun H locs hI => ?_)
  have hI : IW g (fun q => s.heap.size ≤ q) s.heap (wCX g (wM g am ms') ad cs') H locs := hI
  exact lv_icmp_eq (tgt := 1453) hx hb dL_law_518 (by decide) (fun _ => kk H locs ls hI hl) (fun cz => absurd rfl cz)
set_option maxHeartbeats 4000000 in
set_option maxRecDepth 100000 in
theorem lc_9 {p : Program} {l : Launch} {e : Env} {s : State} {m : MethodId} {below : List Frame} {meth : Method} {c : Code} {H : Heap} {locs : List Loc} {b L i : Nat} {xs : Nat → Int32} {ls : Array Slot} {g : GP} {ad am : Nat → Nat} (N : Nat) {cs cs' ms ms' : St} {r : Int32} (X : LCx p s m c b L xs g) (hI : IW g (fun q => s.heap.size ≤ q) s.heap (wCX g (wM g am ms) ad cs) H locs) (hl : lv_has ls 4 [(0, .ref b), (1, .ref (ad 0)), (2, .ref (am 0)), (3, .int (nI i))]) (hi : i + 5 < L) (h1 : f_X5_sheet N cs (xs (i + 1)) (xs (i + 2)) (xs (i + 3)) = some (r, cs')) (h2 : f_X6_sheet N ms (xs (i + 1)) (xs (i + 2)) (xs (i + 3)) = some (r, ms'))
    (kk : ∀ (H : Heap) (locs : List Loc) (ls : Array Slot), IW g (fun q => s.heap.size ≤ q) s.heap (wCX g (wM g am ms') ad cs') H locs → lv_has ls 4 [(0, .ref b), (1, .ref (ad 0)), (2, .ref (am 0)), (3, .int (nI i))] → WL p l e s m b below meth c H locs (F0 m 1453 ls [])) : WL p l e s m b below meth c H locs (F0 m 523 ls []) := by
  obtain ⟨hx, hb, hml, hown, hts⟩ := id X.1.1
  refine lv_aload_n hx hb dL_law_523 rfl (lv_at hl 1 rfl) ?_
  refine lv_aload_n hx hb dL_law_524 rfl (lv_at hl 0 rfl) ?_
  refine lv_iload_n hx hb dL_law_525 rfl (lv_at hl 3 rfl) ?_
  refine lv_iconst (v := 1) hx hb dL_law_526 (by decide) ?_
  refine lv_iadd hx hb dL_law_527 ?_
  refine l_ld (i := i) (j := 1) X hI (by omega) (nI_add i 1) dL_law_528 ?_
  refine lv_aload_n hx hb dL_law_529 rfl (lv_at hl 0 rfl) ?_
  refine lv_iload_n hx hb dL_law_530 rfl (lv_at hl 3 rfl) ?_
  refine lv_iconst (v := 2) hx hb dL_law_531 (by decide) ?_
  refine lv_iadd hx hb dL_law_532 ?_
  refine l_ld (i := i) (j := 2) X hI (by omega) (nI_add i 2) dL_law_533 ?_
  refine lv_aload_n hx hb dL_law_534 rfl (lv_at hl 0 rfl) ?_
  refine lv_iload_n hx hb dL_law_535 rfl (lv_at hl 3 rfl) ?_
  refine lv_iconst (v := 3) hx hb dL_law_536 (by decide) ?_
  refine lv_iadd hx hb dL_law_537 ?_
  refine l_ld (i := i) (j := 3) X hI (by omega) (nI_add i 3) dL_law_538 ?_
  refine l_I (rest := []) X hI (c_X5_sheet l g (wM g am ms) ad N (xs (i + 1)) (xs (i + 2)) (xs (i + 3)) cs h1) (cwV 3 hts gL_law_X5_sheet rfl rfl rfl hv_X5_sheet ⟨Nat.le_of_ble_eq_true rfl, Nat.le_of_ble_eq_true rfl⟩) (w_recv X.1 hI 0 at_C rfl) rfl hl.1 rfl (Nat.le_of_ble_eq_true rfl) dL_law_539 (fun H locs hI => ?_)
  refine lv_aload_n hx hb dL_law_542 rfl (lv_at hl 2 rfl) ?_
  refine lv_aload_n hx hb dL_law_543 rfl (lv_at hl 0 rfl) ?_
  refine lv_iload_n hx hb dL_law_544 rfl (lv_at hl 3 rfl) ?_
  refine lv_iconst (v := 1) hx hb dL_law_545 (by decide) ?_
  refine lv_iadd hx hb dL_law_546 ?_
  refine l_ld (i := i) (j := 1) X hI (by omega) (nI_add i 1) dL_law_547 ?_
  refine lv_aload_n hx hb dL_law_548 rfl (lv_at hl 0 rfl) ?_
  refine lv_iload_n hx hb dL_law_549 rfl (lv_at hl 3 rfl) ?_
  refine lv_iconst (v := 2) hx hb dL_law_550 (by decide) ?_
  refine lv_iadd hx hb dL_law_551 ?_
  refine l_ld (i := i) (j := 2) X hI (by omega) (nI_add i 2) dL_law_552 ?_
  refine lv_aload_n hx hb dL_law_553 rfl (lv_at hl 0 rfl) ?_
  refine lv_iload_n hx hb dL_law_554 rfl (lv_at hl 3 rfl) ?_
  refine lv_iconst (v := 3) hx hb dL_law_555 (by decide) ?_
  refine lv_iadd hx hb dL_law_556 ?_
  refine l_ld (i := i) (j := 3) X hI (by omega) (nI_add i 3) dL_law_557 ?_
  have hI : IW g (fun q => s.heap.size ≤ q) s.heap (wMX g (wC g ad cs') am ms) H locs := hI
  refine l_I (rest := [.int r]) X hI (c_X6_sheet l g (wC g ad cs') am N (xs (i + 1)) (xs (i + 2)) (xs (i + 3)) ms h2) (cwV 3 hts gL_law_X6_sheet rfl rfl rfl hv_X6_sheet ⟨Nat.le_of_ble_eq_true rfl, Nat.le_of_ble_eq_true rfl⟩) (w_recv X.1 hI (wC g ad cs').length wM_ob rfl) rfl hl.1 rfl (Nat.le_of_ble_eq_true rfl) dL_law_558 (fun H locs hI => ?_)
  have hI : IW g (fun q => s.heap.size ≤ q) s.heap (wCX g (wM g am ms') ad cs') H locs := hI
  exact lv_icmp_eq (tgt := 1453) hx hb dL_law_561 (by decide) (fun _ => kk H locs ls hI hl) (fun cz => absurd rfl cz)
set_option maxHeartbeats 4000000 in
set_option maxRecDepth 100000 in
theorem lc_10 {p : Program} {l : Launch} {e : Env} {s : State} {m : MethodId} {below : List Frame} {meth : Method} {c : Code} {H : Heap} {locs : List Loc} {b L i : Nat} {xs : Nat → Int32} {ls : Array Slot} {g : GP} {ad am : Nat → Nat} (N : Nat) {cs cs' ms ms' : St} {r : Int32} (X : LCx p s m c b L xs g) (hI : IW g (fun q => s.heap.size ≤ q) s.heap (wCX g (wM g am ms) ad cs) H locs) (hl : lv_has ls 4 [(0, .ref b), (1, .ref (ad 0)), (2, .ref (am 0)), (3, .int (nI i))]) (hi : i + 5 < L) (h1 : f_X5_put cs (xs (i + 1)) (xs (i + 2)) (xs (i + 3)) = some (r, cs')) (h2 : f_X6_put ms (xs (i + 1)) (xs (i + 2)) (xs (i + 3)) = some (r, ms'))
    (kk : ∀ (H : Heap) (locs : List Loc) (ls : Array Slot), IW g (fun q => s.heap.size ≤ q) s.heap (wCX g (wM g am ms') ad cs') H locs → lv_has ls 4 [(0, .ref b), (1, .ref (ad 0)), (2, .ref (am 0)), (3, .int (nI i))] → WL p l e s m b below meth c H locs (F0 m 1453 ls [])) : WL p l e s m b below meth c H locs (F0 m 566 ls []) := by
  obtain ⟨hx, hb, hml, hown, hts⟩ := id X.1.1
  refine lv_aload_n hx hb dL_law_566 rfl (lv_at hl 1 rfl) ?_
  refine lv_aload_n hx hb dL_law_567 rfl (lv_at hl 0 rfl) ?_
  refine lv_iload_n hx hb dL_law_568 rfl (lv_at hl 3 rfl) ?_
  refine lv_iconst (v := 1) hx hb dL_law_569 (by decide) ?_
  refine lv_iadd hx hb dL_law_570 ?_
  refine l_ld (i := i) (j := 1) X hI (by omega) (nI_add i 1) dL_law_571 ?_
  refine lv_aload_n hx hb dL_law_572 rfl (lv_at hl 0 rfl) ?_
  refine lv_iload_n hx hb dL_law_573 rfl (lv_at hl 3 rfl) ?_
  refine lv_iconst (v := 2) hx hb dL_law_574 (by decide) ?_
  refine lv_iadd hx hb dL_law_575 ?_
  refine l_ld (i := i) (j := 2) X hI (by omega) (nI_add i 2) dL_law_576 ?_
  refine lv_aload_n hx hb dL_law_577 rfl (lv_at hl 0 rfl) ?_
  refine lv_iload_n hx hb dL_law_578 rfl (lv_at hl 3 rfl) ?_
  refine lv_iconst (v := 3) hx hb dL_law_579 (by decide) ?_
  refine lv_iadd hx hb dL_law_580 ?_
  refine l_ld (i := i) (j := 3) X hI (by omega) (nI_add i 3) dL_law_581 ?_
  refine l_I (rest := []) X hI (c_X5_put l g (wM g am ms) ad (xs (i + 1)) (xs (i + 2)) (xs (i + 3)) cs h1) (cwV 3 hts gL_law_X5_put rfl rfl rfl hv_X5_put ⟨Nat.le_of_ble_eq_true rfl, Nat.le_of_ble_eq_true rfl⟩) (w_recv X.1 hI 0 at_C rfl) rfl hl.1 rfl (Nat.le_of_ble_eq_true rfl) dL_law_582 (fun H locs hI => ?_)
  refine lv_aload_n hx hb dL_law_585 rfl (lv_at hl 2 rfl) ?_
  refine lv_aload_n hx hb dL_law_586 rfl (lv_at hl 0 rfl) ?_
  refine lv_iload_n hx hb dL_law_587 rfl (lv_at hl 3 rfl) ?_
  refine lv_iconst (v := 1) hx hb dL_law_588 (by decide) ?_
  refine lv_iadd hx hb dL_law_589 ?_
  refine l_ld (i := i) (j := 1) X hI (by omega) (nI_add i 1) dL_law_590 ?_
  refine lv_aload_n hx hb dL_law_591 rfl (lv_at hl 0 rfl) ?_
  refine lv_iload_n hx hb dL_law_592 rfl (lv_at hl 3 rfl) ?_
  refine lv_iconst (v := 2) hx hb dL_law_593 (by decide) ?_
  refine lv_iadd hx hb dL_law_594 ?_
  refine l_ld (i := i) (j := 2) X hI (by omega) (nI_add i 2) dL_law_595 ?_
  refine lv_aload_n hx hb dL_law_596 rfl (lv_at hl 0 rfl) ?_
  refine lv_iload_n hx hb dL_law_597 rfl (lv_at hl 3 rfl) ?_
  refine lv_iconst (v := 3) hx hb dL_law_598 (by decide) ?_
  refine lv_iadd hx hb dL_law_599 ?_
  refine l_ld (i := i) (j := 3) X hI (by omega) (nI_add i 3) dL_law_600 ?_
  have hI : IW g (fun q => s.heap.size ≤ q) s.heap (wMX g (wC g ad cs') am ms) H locs := hI
  refine l_I (rest := [.int r]) X hI (c_X6_put l g (wC g ad cs') am (xs (i + 1)) (xs (i + 2)) (xs (i + 3)) ms h2) (cwV 3 hts gL_law_X6_put rfl rfl rfl hv_X6_put ⟨Nat.le_of_ble_eq_true rfl, Nat.le_of_ble_eq_true rfl⟩) (w_recv X.1 hI (wC g ad cs').length wM_ob rfl) rfl hl.1 rfl (Nat.le_of_ble_eq_true rfl) dL_law_601 (fun H locs hI => ?_)
  have hI : IW g (fun q => s.heap.size ≤ q) s.heap (wCX g (wM g am ms') ad cs') H locs := hI
  exact lv_icmp_eq (tgt := 1453) hx hb dL_law_604 (by decide) (fun _ => kk H locs ls hI hl) (fun cz => absurd rfl cz)
set_option maxHeartbeats 4000000 in
set_option maxRecDepth 100000 in
theorem lc_11 {p : Program} {l : Launch} {e : Env} {s : State} {m : MethodId} {below : List Frame} {meth : Method} {c : Code} {H : Heap} {locs : List Loc} {b L i : Nat} {xs : Nat → Int32} {ls : Array Slot} {g : GP} {ad am : Nat → Nat} (N : Nat) {cs cs' ms ms' : St} {r : Int32} (X : LCx p s m c b L xs g) (hI : IW g (fun q => s.heap.size ≤ q) s.heap (wCX g (wM g am ms) ad cs) H locs) (hl : lv_has ls 4 [(0, .ref b), (1, .ref (ad 0)), (2, .ref (am 0)), (3, .int (nI i))]) (hi : i + 5 < L) (h1 : f_X5_copy cs (xs (i + 1)) (xs (i + 2)) (xs (i + 3)) (xs (i + 4)) (xs (i + 5)) = some (r, cs')) (h2 : f_X6_copy N ms (xs (i + 1)) (xs (i + 2)) (xs (i + 3)) (xs (i + 4)) (xs (i + 5)) = some (r, ms'))
    (kk : ∀ (H : Heap) (locs : List Loc) (ls : Array Slot), IW g (fun q => s.heap.size ≤ q) s.heap (wCX g (wM g am ms') ad cs') H locs → lv_has ls 4 [(0, .ref b), (1, .ref (ad 0)), (2, .ref (am 0)), (3, .int (nI i))] → WL p l e s m b below meth c H locs (F0 m 1453 ls [])) : WL p l e s m b below meth c H locs (F0 m 609 ls []) := by
  obtain ⟨hx, hb, hml, hown, hts⟩ := id X.1.1
  refine lv_aload_n hx hb dL_law_609 rfl (lv_at hl 1 rfl) ?_
  refine lv_aload_n hx hb dL_law_610 rfl (lv_at hl 0 rfl) ?_
  refine lv_iload_n hx hb dL_law_611 rfl (lv_at hl 3 rfl) ?_
  refine lv_iconst (v := 1) hx hb dL_law_612 (by decide) ?_
  refine lv_iadd hx hb dL_law_613 ?_
  refine l_ld (i := i) (j := 1) X hI (by omega) (nI_add i 1) dL_law_614 ?_
  refine lv_aload_n hx hb dL_law_615 rfl (lv_at hl 0 rfl) ?_
  refine lv_iload_n hx hb dL_law_616 rfl (lv_at hl 3 rfl) ?_
  refine lv_iconst (v := 2) hx hb dL_law_617 (by decide) ?_
  refine lv_iadd hx hb dL_law_618 ?_
  refine l_ld (i := i) (j := 2) X hI (by omega) (nI_add i 2) dL_law_619 ?_
  refine lv_aload_n hx hb dL_law_620 rfl (lv_at hl 0 rfl) ?_
  refine lv_iload_n hx hb dL_law_621 rfl (lv_at hl 3 rfl) ?_
  refine lv_iconst (v := 3) hx hb dL_law_622 (by decide) ?_
  refine lv_iadd hx hb dL_law_623 ?_
  refine l_ld (i := i) (j := 3) X hI (by omega) (nI_add i 3) dL_law_624 ?_
  refine lv_aload_n hx hb dL_law_625 rfl (lv_at hl 0 rfl) ?_
  refine lv_iload_n hx hb dL_law_626 rfl (lv_at hl 3 rfl) ?_
  refine lv_iconst (v := 4) hx hb dL_law_627 (by decide) ?_
  refine lv_iadd hx hb dL_law_628 ?_
  refine l_ld (i := i) (j := 4) X hI (by omega) (nI_add i 4) dL_law_629 ?_
  refine lv_aload_n hx hb dL_law_630 rfl (lv_at hl 0 rfl) ?_
  refine lv_iload_n hx hb dL_law_631 rfl (lv_at hl 3 rfl) ?_
  refine lv_iconst (v := 5) hx hb dL_law_632 (by decide) ?_
  refine lv_iadd hx hb dL_law_633 ?_
  refine l_ld (i := i) (j := 5) X hI (by omega) (nI_add i 5) dL_law_634 ?_
  refine l_I (rest := []) X hI (c_X5_copy l g (wM g am ms) ad (xs (i + 1)) (xs (i + 2)) (xs (i + 3)) (xs (i + 4)) (xs (i + 5)) cs h1) (cwV 5 hts gL_law_X5_copy rfl rfl rfl hv_X5_copy ⟨Nat.le_of_ble_eq_true rfl, Nat.le_of_ble_eq_true rfl⟩) (w_recv X.1 hI 0 at_C rfl) rfl hl.1 rfl (Nat.le_of_ble_eq_true rfl) dL_law_635 (fun H locs hI => ?_)
  refine lv_aload_n hx hb dL_law_638 rfl (lv_at hl 2 rfl) ?_
  refine lv_aload_n hx hb dL_law_639 rfl (lv_at hl 0 rfl) ?_
  refine lv_iload_n hx hb dL_law_640 rfl (lv_at hl 3 rfl) ?_
  refine lv_iconst (v := 1) hx hb dL_law_641 (by decide) ?_
  refine lv_iadd hx hb dL_law_642 ?_
  refine l_ld (i := i) (j := 1) X hI (by omega) (nI_add i 1) dL_law_643 ?_
  refine lv_aload_n hx hb dL_law_644 rfl (lv_at hl 0 rfl) ?_
  refine lv_iload_n hx hb dL_law_645 rfl (lv_at hl 3 rfl) ?_
  refine lv_iconst (v := 2) hx hb dL_law_646 (by decide) ?_
  refine lv_iadd hx hb dL_law_647 ?_
  refine l_ld (i := i) (j := 2) X hI (by omega) (nI_add i 2) dL_law_648 ?_
  refine lv_aload_n hx hb dL_law_649 rfl (lv_at hl 0 rfl) ?_
  refine lv_iload_n hx hb dL_law_650 rfl (lv_at hl 3 rfl) ?_
  refine lv_iconst (v := 3) hx hb dL_law_651 (by decide) ?_
  refine lv_iadd hx hb dL_law_652 ?_
  refine l_ld (i := i) (j := 3) X hI (by omega) (nI_add i 3) dL_law_653 ?_
  refine lv_aload_n hx hb dL_law_654 rfl (lv_at hl 0 rfl) ?_
  refine lv_iload_n hx hb dL_law_655 rfl (lv_at hl 3 rfl) ?_
  refine lv_iconst (v := 4) hx hb dL_law_656 (by decide) ?_
  refine lv_iadd hx hb dL_law_657 ?_
  refine l_ld (i := i) (j := 4) X hI (by omega) (nI_add i 4) dL_law_658 ?_
  refine lv_aload_n hx hb dL_law_659 rfl (lv_at hl 0 rfl) ?_
  refine lv_iload_n hx hb dL_law_660 rfl (lv_at hl 3 rfl) ?_
  refine lv_iconst (v := 5) hx hb dL_law_661 (by decide) ?_
  refine lv_iadd hx hb dL_law_662 ?_
  refine l_ld (i := i) (j := 5) X hI (by omega) (nI_add i 5) dL_law_663 ?_
  have hI : IW g (fun q => s.heap.size ≤ q) s.heap (wMX g (wC g ad cs') am ms) H locs := hI
  refine l_I (rest := [.int r]) X hI (c_X6_copy l g (wC g ad cs') am N (xs (i + 1)) (xs (i + 2)) (xs (i + 3)) (xs (i + 4)) (xs (i + 5)) ms h2) (cwV 5 hts gL_law_X6_copy rfl rfl rfl hv_X6_copy ⟨Nat.le_of_ble_eq_true rfl, Nat.le_of_ble_eq_true rfl⟩) (w_recv X.1 hI (wC g ad cs').length wM_ob rfl) rfl hl.1 rfl (Nat.le_of_ble_eq_true rfl) dL_law_664 (fun H locs hI => ?_)
  have hI : IW g (fun q => s.heap.size ≤ q) s.heap (wCX g (wM g am ms') ad cs') H locs := hI
  exact lv_icmp_eq (tgt := 1453) hx hb dL_law_667 (by decide) (fun _ => kk H locs ls hI hl) (fun cz => absurd rfl cz)
set_option maxHeartbeats 4000000 in
set_option maxRecDepth 100000 in
theorem lc_12 {p : Program} {l : Launch} {e : Env} {s : State} {m : MethodId} {below : List Frame} {meth : Method} {c : Code} {H : Heap} {locs : List Loc} {b L i : Nat} {xs : Nat → Int32} {ls : Array Slot} {g : GP} {ad am : Nat → Nat} (N : Nat) {cs cs' ms ms' : St} {r : Int32} (X : LCx p s m c b L xs g) (hI : IW g (fun q => s.heap.size ≤ q) s.heap (wCX g (wM g am ms) ad cs) H locs) (hl : lv_has ls 4 [(0, .ref b), (1, .ref (ad 0)), (2, .ref (am 0)), (3, .int (nI i))]) (hi : i + 5 < L) (h1 : f_X5_read N cs (xs (i + 1)) (xs (i + 2)) = some (r, cs')) (h2 : f_X6_read N ms (xs (i + 1)) (xs (i + 2)) = some (r, ms'))
    (kk : ∀ (H : Heap) (locs : List Loc) (ls : Array Slot), IW g (fun q => s.heap.size ≤ q) s.heap (wCX g (wM g am ms') ad cs') H locs → lv_has ls 4 [(0, .ref b), (1, .ref (ad 0)), (2, .ref (am 0)), (3, .int (nI i))] → WL p l e s m b below meth c H locs (F0 m 1453 ls [])) : WL p l e s m b below meth c H locs (F0 m 672 ls []) := by
  obtain ⟨hx, hb, hml, hown, hts⟩ := id X.1.1
  refine lv_aload_n hx hb dL_law_672 rfl (lv_at hl 1 rfl) ?_
  refine lv_aload_n hx hb dL_law_673 rfl (lv_at hl 0 rfl) ?_
  refine lv_iload_n hx hb dL_law_674 rfl (lv_at hl 3 rfl) ?_
  refine lv_iconst (v := 1) hx hb dL_law_675 (by decide) ?_
  refine lv_iadd hx hb dL_law_676 ?_
  refine l_ld (i := i) (j := 1) X hI (by omega) (nI_add i 1) dL_law_677 ?_
  refine lv_aload_n hx hb dL_law_678 rfl (lv_at hl 0 rfl) ?_
  refine lv_iload_n hx hb dL_law_679 rfl (lv_at hl 3 rfl) ?_
  refine lv_iconst (v := 2) hx hb dL_law_680 (by decide) ?_
  refine lv_iadd hx hb dL_law_681 ?_
  refine l_ld (i := i) (j := 2) X hI (by omega) (nI_add i 2) dL_law_682 ?_
  refine l_I (rest := []) X hI (c_X5_read l g (wM g am ms) ad N (xs (i + 1)) (xs (i + 2)) cs h1) (cwV 2 hts gL_law_X5_read rfl rfl rfl hv_X5_read ⟨Nat.le_of_ble_eq_true rfl, Nat.le_of_ble_eq_true rfl⟩) (w_recv X.1 hI 0 at_C rfl) rfl hl.1 rfl (Nat.le_of_ble_eq_true rfl) dL_law_683 (fun H locs hI => ?_)
  refine lv_aload_n hx hb dL_law_686 rfl (lv_at hl 2 rfl) ?_
  refine lv_aload_n hx hb dL_law_687 rfl (lv_at hl 0 rfl) ?_
  refine lv_iload_n hx hb dL_law_688 rfl (lv_at hl 3 rfl) ?_
  refine lv_iconst (v := 1) hx hb dL_law_689 (by decide) ?_
  refine lv_iadd hx hb dL_law_690 ?_
  refine l_ld (i := i) (j := 1) X hI (by omega) (nI_add i 1) dL_law_691 ?_
  refine lv_aload_n hx hb dL_law_692 rfl (lv_at hl 0 rfl) ?_
  refine lv_iload_n hx hb dL_law_693 rfl (lv_at hl 3 rfl) ?_
  refine lv_iconst (v := 2) hx hb dL_law_694 (by decide) ?_
  refine lv_iadd hx hb dL_law_695 ?_
  refine l_ld (i := i) (j := 2) X hI (by omega) (nI_add i 2) dL_law_696 ?_
  have hI : IW g (fun q => s.heap.size ≤ q) s.heap (wMX g (wC g ad cs') am ms) H locs := hI
  refine l_I (rest := [.int r]) X hI (c_X6_read l g (wC g ad cs') am N (xs (i + 1)) (xs (i + 2)) ms h2) (cwV 2 hts gL_law_X6_read rfl rfl rfl hv_X6_read ⟨Nat.le_of_ble_eq_true rfl, Nat.le_of_ble_eq_true rfl⟩) (w_recv X.1 hI (wC g ad cs').length wM_ob rfl) rfl hl.1 rfl (Nat.le_of_ble_eq_true rfl) dL_law_697 (fun H locs hI => ?_)
  have hI : IW g (fun q => s.heap.size ≤ q) s.heap (wCX g (wM g am ms') ad cs') H locs := hI
  exact lv_icmp_eq (tgt := 1453) hx hb dL_law_700 (by decide) (fun _ => kk H locs ls hI hl) (fun cz => absurd rfl cz)
set_option maxHeartbeats 4000000 in
set_option maxRecDepth 100000 in
theorem lc_13 {p : Program} {l : Launch} {e : Env} {s : State} {m : MethodId} {below : List Frame} {meth : Method} {c : Code} {H : Heap} {locs : List Loc} {b L i : Nat} {xs : Nat → Int32} {ls : Array Slot} {g : GP} {ad am : Nat → Nat} (N : Nat) {cs cs' ms ms' : St} {r : Int32} (X : LCx p s m c b L xs g) (hI : IW g (fun q => s.heap.size ≤ q) s.heap (wCX g (wM g am ms) ad cs) H locs) (hl : lv_has ls 4 [(0, .ref b), (1, .ref (ad 0)), (2, .ref (am 0)), (3, .int (nI i))]) (hi : i + 5 < L) (h1 : f_X5_order N cs = some (r, cs')) (h2 : f_X6_order N ms = some (r, ms'))
    (kk : ∀ (H : Heap) (locs : List Loc) (ls : Array Slot), IW g (fun q => s.heap.size ≤ q) s.heap (wCX g (wM g am ms') ad cs') H locs → lv_has ls 4 [(0, .ref b), (1, .ref (ad 0)), (2, .ref (am 0)), (3, .int (nI i))] → WL p l e s m b below meth c H locs (F0 m 1453 ls [])) : WL p l e s m b below meth c H locs (F0 m 705 ls []) := by
  obtain ⟨hx, hb, hml, hown, hts⟩ := id X.1.1
  refine lv_aload_n hx hb dL_law_705 rfl (lv_at hl 1 rfl) ?_
  refine l_I (rest := []) X hI (c_X5_order l g (wM g am ms) ad N cs h1) (cwV 0 hts gL_law_X5_order rfl rfl rfl hv_X5_order ⟨Nat.le_of_ble_eq_true rfl, Nat.le_of_ble_eq_true rfl⟩) (w_recv X.1 hI 0 at_C rfl) rfl hl.1 rfl (Nat.le_of_ble_eq_true rfl) dL_law_706 (fun H locs hI => ?_)
  refine lv_aload_n hx hb dL_law_709 rfl (lv_at hl 2 rfl) ?_
  have hI : IW g (fun q => s.heap.size ≤ q) s.heap (wMX g (wC g ad cs') am ms) H locs := hI
  refine l_I (rest := [.int r]) X hI (c_X6_order l g (wC g ad cs') am N ms h2) (cwV 0 hts gL_law_X6_order rfl rfl rfl hv_X6_order ⟨Nat.le_of_ble_eq_true rfl, Nat.le_of_ble_eq_true rfl⟩) (w_recv X.1 hI (wC g ad cs').length wM_ob rfl) rfl hl.1 rfl (Nat.le_of_ble_eq_true rfl) dL_law_710 (fun H locs hI => ?_)
  have hI : IW g (fun q => s.heap.size ≤ q) s.heap (wCX g (wM g am ms') ad cs') H locs := hI
  exact lv_icmp_eq (tgt := 1453) hx hb dL_law_713 (by decide) (fun _ => kk H locs ls hI hl) (fun cz => absurd rfl cz)
set_option maxHeartbeats 4000000 in
set_option maxRecDepth 100000 in
theorem lc_14 {p : Program} {l : Launch} {e : Env} {s : State} {m : MethodId} {below : List Frame} {meth : Method} {c : Code} {H : Heap} {locs : List Loc} {b L i : Nat} {xs : Nat → Int32} {ls : Array Slot} {g : GP} {ad am : Nat → Nat} (N : Nat) {cs cs' ms ms' : St} {r : Int32} (X : LCx p s m c b L xs g) (hI : IW g (fun q => s.heap.size ≤ q) s.heap (wCX g (wM g am ms) ad cs) H locs) (hl : lv_has ls 4 [(0, .ref b), (1, .ref (ad 0)), (2, .ref (am 0)), (3, .int (nI i))]) (hi : i + 5 < L) (h1 : f_X5_at N cs (xs (i + 1)) = some (r, cs')) (h2 : f_X6_at N ms (xs (i + 1)) = some (r, ms'))
    (kk : ∀ (H : Heap) (locs : List Loc) (ls : Array Slot), IW g (fun q => s.heap.size ≤ q) s.heap (wCX g (wM g am ms') ad cs') H locs → lv_has ls 4 [(0, .ref b), (1, .ref (ad 0)), (2, .ref (am 0)), (3, .int (nI i))] → WL p l e s m b below meth c H locs (F0 m 1453 ls [])) : WL p l e s m b below meth c H locs (F0 m 718 ls []) := by
  obtain ⟨hx, hb, hml, hown, hts⟩ := id X.1.1
  refine lv_aload_n hx hb dL_law_718 rfl (lv_at hl 1 rfl) ?_
  refine lv_aload_n hx hb dL_law_719 rfl (lv_at hl 0 rfl) ?_
  refine lv_iload_n hx hb dL_law_720 rfl (lv_at hl 3 rfl) ?_
  refine lv_iconst (v := 1) hx hb dL_law_721 (by decide) ?_
  refine lv_iadd hx hb dL_law_722 ?_
  refine l_ld (i := i) (j := 1) X hI (by omega) (nI_add i 1) dL_law_723 ?_
  refine l_I (rest := []) X hI (c_X5_at l g (wM g am ms) ad N (xs (i + 1)) cs h1) (cwV 1 hts gL_law_X5_at rfl rfl rfl hv_X5_at ⟨Nat.le_of_ble_eq_true rfl, Nat.le_of_ble_eq_true rfl⟩) (w_recv X.1 hI 0 at_C rfl) rfl hl.1 rfl (Nat.le_of_ble_eq_true rfl) dL_law_724 (fun H locs hI => ?_)
  refine lv_aload_n hx hb dL_law_727 rfl (lv_at hl 2 rfl) ?_
  refine lv_aload_n hx hb dL_law_728 rfl (lv_at hl 0 rfl) ?_
  refine lv_iload_n hx hb dL_law_729 rfl (lv_at hl 3 rfl) ?_
  refine lv_iconst (v := 1) hx hb dL_law_730 (by decide) ?_
  refine lv_iadd hx hb dL_law_731 ?_
  refine l_ld (i := i) (j := 1) X hI (by omega) (nI_add i 1) dL_law_732 ?_
  have hI : IW g (fun q => s.heap.size ≤ q) s.heap (wMX g (wC g ad cs') am ms) H locs := hI
  refine l_I (rest := [.int r]) X hI (c_X6_at l g (wC g ad cs') am N (xs (i + 1)) ms h2) (cwV 1 hts gL_law_X6_at rfl rfl rfl hv_X6_at ⟨Nat.le_of_ble_eq_true rfl, Nat.le_of_ble_eq_true rfl⟩) (w_recv X.1 hI (wC g ad cs').length wM_ob rfl) rfl hl.1 rfl (Nat.le_of_ble_eq_true rfl) dL_law_733 (fun H locs hI => ?_)
  have hI : IW g (fun q => s.heap.size ≤ q) s.heap (wCX g (wM g am ms') ad cs') H locs := hI
  exact lv_icmp_eq (tgt := 1453) hx hb dL_law_736 (by decide) (fun _ => kk H locs ls hI hl) (fun cz => absurd rfl cz)
set_option maxHeartbeats 4000000 in
set_option maxRecDepth 100000 in
theorem lc_15 {p : Program} {l : Launch} {e : Env} {s : State} {m : MethodId} {below : List Frame} {meth : Method} {c : Code} {H : Heap} {locs : List Loc} {b L i : Nat} {xs : Nat → Int32} {ls : Array Slot} {g : GP} {ad am : Nat → Nat} (N : Nat) {cs cs' ms ms' : St} {r : Int32} (X : LCx p s m c b L xs g) (hI : IW g (fun q => s.heap.size ≤ q) s.heap (wCX g (wM g am ms) ad cs) H locs) (hl : lv_has ls 4 [(0, .ref b), (1, .ref (ad 0)), (2, .ref (am 0)), (3, .int (nI i))]) (hi : i + 5 < L) (h1 : f_X5_holes N cs (xs (i + 1)) = some (r, cs')) (h2 : f_X6_holes N ms (xs (i + 1)) = some (r, ms'))
    (kk : ∀ (H : Heap) (locs : List Loc) (ls : Array Slot), IW g (fun q => s.heap.size ≤ q) s.heap (wCX g (wM g am ms') ad cs') H locs → lv_has ls 4 [(0, .ref b), (1, .ref (ad 0)), (2, .ref (am 0)), (3, .int (nI i))] → WL p l e s m b below meth c H locs (F0 m 1453 ls [])) : WL p l e s m b below meth c H locs (F0 m 741 ls []) := by
  obtain ⟨hx, hb, hml, hown, hts⟩ := id X.1.1
  refine lv_aload_n hx hb dL_law_741 rfl (lv_at hl 1 rfl) ?_
  refine lv_aload_n hx hb dL_law_742 rfl (lv_at hl 0 rfl) ?_
  refine lv_iload_n hx hb dL_law_743 rfl (lv_at hl 3 rfl) ?_
  refine lv_iconst (v := 1) hx hb dL_law_744 (by decide) ?_
  refine lv_iadd hx hb dL_law_745 ?_
  refine l_ld (i := i) (j := 1) X hI (by omega) (nI_add i 1) dL_law_746 ?_
  refine l_I (rest := []) X hI (c_X5_holes l g (wM g am ms) ad N (xs (i + 1)) cs h1) (cwV 1 hts gL_law_X5_holes rfl rfl rfl hv_X5_holes ⟨Nat.le_of_ble_eq_true rfl, Nat.le_of_ble_eq_true rfl⟩) (w_recv X.1 hI 0 at_C rfl) rfl hl.1 rfl (Nat.le_of_ble_eq_true rfl) dL_law_747 (fun H locs hI => ?_)
  refine lv_aload_n hx hb dL_law_750 rfl (lv_at hl 2 rfl) ?_
  refine lv_aload_n hx hb dL_law_751 rfl (lv_at hl 0 rfl) ?_
  refine lv_iload_n hx hb dL_law_752 rfl (lv_at hl 3 rfl) ?_
  refine lv_iconst (v := 1) hx hb dL_law_753 (by decide) ?_
  refine lv_iadd hx hb dL_law_754 ?_
  refine l_ld (i := i) (j := 1) X hI (by omega) (nI_add i 1) dL_law_755 ?_
  have hI : IW g (fun q => s.heap.size ≤ q) s.heap (wMX g (wC g ad cs') am ms) H locs := hI
  refine l_I (rest := [.int r]) X hI (c_X6_holes l g (wC g ad cs') am N (xs (i + 1)) ms h2) (cwV 1 hts gL_law_X6_holes rfl rfl rfl hv_X6_holes ⟨Nat.le_of_ble_eq_true rfl, Nat.le_of_ble_eq_true rfl⟩) (w_recv X.1 hI (wC g ad cs').length wM_ob rfl) rfl hl.1 rfl (Nat.le_of_ble_eq_true rfl) dL_law_756 (fun H locs hI => ?_)
  have hI : IW g (fun q => s.heap.size ≤ q) s.heap (wCX g (wM g am ms') ad cs') H locs := hI
  exact lv_icmp_eq (tgt := 1453) hx hb dL_law_759 (by decide) (fun _ => kk H locs ls hI hl) (fun cz => absurd rfl cz)
set_option maxHeartbeats 4000000 in
set_option maxRecDepth 100000 in
theorem lc_16 {p : Program} {l : Launch} {e : Env} {s : State} {m : MethodId} {below : List Frame} {meth : Method} {c : Code} {H : Heap} {locs : List Loc} {b L i : Nat} {xs : Nat → Int32} {ls : Array Slot} {g : GP} {ad am : Nat → Nat} (N : Nat) {cs cs' ms ms' : St} {r : Int32} (X : LCx p s m c b L xs g) (hI : IW g (fun q => s.heap.size ≤ q) s.heap (wCX g (wM g am ms) ad cs) H locs) (hl : lv_has ls 4 [(0, .ref b), (1, .ref (ad 0)), (2, .ref (am 0)), (3, .int (nI i))]) (hi : i + 5 < L) (h1 : f_X5_good N cs (xs (i + 1)) (bz (xs (i + 2))) = some (r, cs')) (h2 : f_X6_good N ms (xs (i + 1)) (bz (xs (i + 2))) = some (r, ms'))
    (kk : ∀ (H : Heap) (locs : List Loc) (ls : Array Slot), IW g (fun q => s.heap.size ≤ q) s.heap (wCX g (wM g am ms') ad cs') H locs → lv_has ls 4 [(0, .ref b), (1, .ref (ad 0)), (2, .ref (am 0)), (3, .int (nI i))] → WL p l e s m b below meth c H locs (F0 m 1453 ls [])) : WL p l e s m b below meth c H locs (F0 m 764 ls []) := by
  obtain ⟨hx, hb, hml, hown, hts⟩ := id X.1.1
  by_cases cb2 : xs (i + 2) = 0
  · rw [bz_0 cb2] at h1 h2
    refine lv_aload_n hx hb dL_law_764 rfl (lv_at hl 1 rfl) ?_
    refine lv_aload_n hx hb dL_law_765 rfl (lv_at hl 0 rfl) ?_
    refine lv_iload_n hx hb dL_law_766 rfl (lv_at hl 3 rfl) ?_
    refine lv_iconst (v := 1) hx hb dL_law_767 (by decide) ?_
    refine lv_iadd hx hb dL_law_768 ?_
    refine l_ld (i := i) (j := 1) X hI (by omega) (nI_add i 1) dL_law_769 ?_
    refine lv_aload_n hx hb dL_law_770 rfl (lv_at hl 0 rfl) ?_
    refine lv_iload_n hx hb dL_law_771 rfl (lv_at hl 3 rfl) ?_
    refine lv_iconst (v := 2) hx hb dL_law_772 (by decide) ?_
    refine lv_iadd hx hb dL_law_773 ?_
    refine l_ld (i := i) (j := 2) X hI (by omega) (nI_add i 2) dL_law_774 ?_
    refine lv_if_eq (tgt := 782) hx hb dL_law_775 (by decide) (fun _ => ?_) (fun cz => absurd cb2 cz)
    refine lv_iconst (v := 0) hx hb dL_law_782 (by decide) ?_
    refine l_I (rest := []) X hI (c_X5_good l g (wM g am ms) ad N (xs (i + 1)) false cs h1) (cwV 2 hts gL_law_X5_good rfl rfl rfl hv_X5_good ⟨Nat.le_of_ble_eq_true rfl, Nat.le_of_ble_eq_true rfl⟩) (w_recv X.1 hI 0 at_C rfl) rfl hl.1 rfl (Nat.le_of_ble_eq_true rfl) dL_law_783 (fun H locs hI => ?_)
    refine lv_aload_n hx hb dL_law_786 rfl (lv_at hl 2 rfl) ?_
    refine lv_aload_n hx hb dL_law_787 rfl (lv_at hl 0 rfl) ?_
    refine lv_iload_n hx hb dL_law_788 rfl (lv_at hl 3 rfl) ?_
    refine lv_iconst (v := 1) hx hb dL_law_789 (by decide) ?_
    refine lv_iadd hx hb dL_law_790 ?_
    refine l_ld (i := i) (j := 1) X hI (by omega) (nI_add i 1) dL_law_791 ?_
    refine lv_aload_n hx hb dL_law_792 rfl (lv_at hl 0 rfl) ?_
    refine lv_iload_n hx hb dL_law_793 rfl (lv_at hl 3 rfl) ?_
    refine lv_iconst (v := 2) hx hb dL_law_794 (by decide) ?_
    refine lv_iadd hx hb dL_law_795 ?_
    refine l_ld (i := i) (j := 2) X hI (by omega) (nI_add i 2) dL_law_796 ?_
    refine lv_if_eq (tgt := 804) hx hb dL_law_797 (by decide) (fun _ => ?_) (fun cz => absurd cb2 cz)
    refine lv_iconst (v := 0) hx hb dL_law_804 (by decide) ?_
    have hI : IW g (fun q => s.heap.size ≤ q) s.heap (wMX g (wC g ad cs') am ms) H locs := hI
    refine l_I (rest := [.int r]) X hI (c_X6_good l g (wC g ad cs') am N (xs (i + 1)) false ms h2) (cwV 2 hts gL_law_X6_good rfl rfl rfl hv_X6_good ⟨Nat.le_of_ble_eq_true rfl, Nat.le_of_ble_eq_true rfl⟩) (w_recv X.1 hI (wC g ad cs').length wM_ob rfl) rfl hl.1 rfl (Nat.le_of_ble_eq_true rfl) dL_law_805 (fun H locs hI => ?_)
    have hI : IW g (fun q => s.heap.size ≤ q) s.heap (wCX g (wM g am ms') ad cs') H locs := hI
    exact lv_icmp_eq (tgt := 1453) hx hb dL_law_808 (by decide) (fun _ => kk H locs ls hI hl) (fun cz => absurd rfl cz)
  · rw [bz_1 cb2] at h1 h2
    refine lv_aload_n hx hb dL_law_764 rfl (lv_at hl 1 rfl) ?_
    refine lv_aload_n hx hb dL_law_765 rfl (lv_at hl 0 rfl) ?_
    refine lv_iload_n hx hb dL_law_766 rfl (lv_at hl 3 rfl) ?_
    refine lv_iconst (v := 1) hx hb dL_law_767 (by decide) ?_
    refine lv_iadd hx hb dL_law_768 ?_
    refine l_ld (i := i) (j := 1) X hI (by omega) (nI_add i 1) dL_law_769 ?_
    refine lv_aload_n hx hb dL_law_770 rfl (lv_at hl 0 rfl) ?_
    refine lv_iload_n hx hb dL_law_771 rfl (lv_at hl 3 rfl) ?_
    refine lv_iconst (v := 2) hx hb dL_law_772 (by decide) ?_
    refine lv_iadd hx hb dL_law_773 ?_
    refine l_ld (i := i) (j := 2) X hI (by omega) (nI_add i 2) dL_law_774 ?_
    refine lv_if_eq (tgt := 782) hx hb dL_law_775 (by decide) (fun cz => absurd cz cb2) (fun _ => ?_)
    refine lv_iconst (v := 1) hx hb dL_law_778 (by decide) ?_
    refine lv_goto (tgt := 783) hx hb dL_law_779 (by decide) ?_
    refine l_I (rest := []) X hI (c_X5_good l g (wM g am ms) ad N (xs (i + 1)) true cs h1) (cwV 2 hts gL_law_X5_good rfl rfl rfl hv_X5_good ⟨Nat.le_of_ble_eq_true rfl, Nat.le_of_ble_eq_true rfl⟩) (w_recv X.1 hI 0 at_C rfl) rfl hl.1 rfl (Nat.le_of_ble_eq_true rfl) dL_law_783 (fun H locs hI => ?_)
    refine lv_aload_n hx hb dL_law_786 rfl (lv_at hl 2 rfl) ?_
    refine lv_aload_n hx hb dL_law_787 rfl (lv_at hl 0 rfl) ?_
    refine lv_iload_n hx hb dL_law_788 rfl (lv_at hl 3 rfl) ?_
    refine lv_iconst (v := 1) hx hb dL_law_789 (by decide) ?_
    refine lv_iadd hx hb dL_law_790 ?_
    refine l_ld (i := i) (j := 1) X hI (by omega) (nI_add i 1) dL_law_791 ?_
    refine lv_aload_n hx hb dL_law_792 rfl (lv_at hl 0 rfl) ?_
    refine lv_iload_n hx hb dL_law_793 rfl (lv_at hl 3 rfl) ?_
    refine lv_iconst (v := 2) hx hb dL_law_794 (by decide) ?_
    refine lv_iadd hx hb dL_law_795 ?_
    refine l_ld (i := i) (j := 2) X hI (by omega) (nI_add i 2) dL_law_796 ?_
    refine lv_if_eq (tgt := 804) hx hb dL_law_797 (by decide) (fun cz => absurd cz cb2) (fun _ => ?_)
    refine lv_iconst (v := 1) hx hb dL_law_800 (by decide) ?_
    refine lv_goto (tgt := 805) hx hb dL_law_801 (by decide) ?_
    have hI : IW g (fun q => s.heap.size ≤ q) s.heap (wMX g (wC g ad cs') am ms) H locs := hI
    refine l_I (rest := [.int r]) X hI (c_X6_good l g (wC g ad cs') am N (xs (i + 1)) true ms h2) (cwV 2 hts gL_law_X6_good rfl rfl rfl hv_X6_good ⟨Nat.le_of_ble_eq_true rfl, Nat.le_of_ble_eq_true rfl⟩) (w_recv X.1 hI (wC g ad cs').length wM_ob rfl) rfl hl.1 rfl (Nat.le_of_ble_eq_true rfl) dL_law_805 (fun H locs hI => ?_)
    have hI : IW g (fun q => s.heap.size ≤ q) s.heap (wCX g (wM g am ms') ad cs') H locs := hI
    exact lv_icmp_eq (tgt := 1453) hx hb dL_law_808 (by decide) (fun _ => kk H locs ls hI hl) (fun cz => absurd rfl cz)
set_option maxHeartbeats 4000000 in
set_option maxRecDepth 100000 in
theorem lc_17 {p : Program} {l : Launch} {e : Env} {s : State} {m : MethodId} {below : List Frame} {meth : Method} {c : Code} {H : Heap} {locs : List Loc} {b L i : Nat} {xs : Nat → Int32} {ls : Array Slot} {g : GP} {ad am : Nat → Nat} (N : Nat) {cs cs' ms ms' : St} {r : Int32} (X : LCx p s m c b L xs g) (hI : IW g (fun q => s.heap.size ≤ q) s.heap (wCX g (wM g am ms) ad cs) H locs) (hl : lv_has ls 4 [(0, .ref b), (1, .ref (ad 0)), (2, .ref (am 0)), (3, .int (nI i))]) (hi : i + 5 < L) (h1 : f_X5_tell cs (xs (i + 1)) = some (r, cs')) (h2 : f_X6_tell ms (xs (i + 1)) = some (r, ms'))
    (kk : ∀ (H : Heap) (locs : List Loc) (ls : Array Slot), IW g (fun q => s.heap.size ≤ q) s.heap (wCX g (wM g am ms') ad cs') H locs → lv_has ls 4 [(0, .ref b), (1, .ref (ad 0)), (2, .ref (am 0)), (3, .int (nI i))] → WL p l e s m b below meth c H locs (F0 m 1453 ls [])) : WL p l e s m b below meth c H locs (F0 m 813 ls []) := by
  obtain ⟨hx, hb, hml, hown, hts⟩ := id X.1.1
  refine lv_aload_n hx hb dL_law_813 rfl (lv_at hl 1 rfl) ?_
  refine lv_aload_n hx hb dL_law_814 rfl (lv_at hl 0 rfl) ?_
  refine lv_iload_n hx hb dL_law_815 rfl (lv_at hl 3 rfl) ?_
  refine lv_iconst (v := 1) hx hb dL_law_816 (by decide) ?_
  refine lv_iadd hx hb dL_law_817 ?_
  refine l_ld (i := i) (j := 1) X hI (by omega) (nI_add i 1) dL_law_818 ?_
  refine l_I (rest := []) X hI (c_X5_tell l g (wM g am ms) ad (xs (i + 1)) cs h1) (cwV 1 hts gL_law_X5_tell rfl rfl rfl hv_X5_tell ⟨Nat.le_of_ble_eq_true rfl, Nat.le_of_ble_eq_true rfl⟩) (w_recv X.1 hI 0 at_C rfl) rfl hl.1 rfl (Nat.le_of_ble_eq_true rfl) dL_law_819 (fun H locs hI => ?_)
  refine lv_aload_n hx hb dL_law_822 rfl (lv_at hl 2 rfl) ?_
  refine lv_aload_n hx hb dL_law_823 rfl (lv_at hl 0 rfl) ?_
  refine lv_iload_n hx hb dL_law_824 rfl (lv_at hl 3 rfl) ?_
  refine lv_iconst (v := 1) hx hb dL_law_825 (by decide) ?_
  refine lv_iadd hx hb dL_law_826 ?_
  refine l_ld (i := i) (j := 1) X hI (by omega) (nI_add i 1) dL_law_827 ?_
  have hI : IW g (fun q => s.heap.size ≤ q) s.heap (wMX g (wC g ad cs') am ms) H locs := hI
  refine l_I (rest := [.int r]) X hI (c_X6_tell l g (wC g ad cs') am (xs (i + 1)) ms h2) (cwV 1 hts gL_law_X6_tell rfl rfl rfl hv_X6_tell ⟨Nat.le_of_ble_eq_true rfl, Nat.le_of_ble_eq_true rfl⟩) (w_recv X.1 hI (wC g ad cs').length wM_ob rfl) rfl hl.1 rfl (Nat.le_of_ble_eq_true rfl) dL_law_828 (fun H locs hI => ?_)
  have hI : IW g (fun q => s.heap.size ≤ q) s.heap (wCX g (wM g am ms') ad cs') H locs := hI
  exact lv_icmp_eq (tgt := 1453) hx hb dL_law_831 (by decide) (fun _ => kk H locs ls hI hl) (fun cz => absurd rfl cz)
set_option maxHeartbeats 4000000 in
set_option maxRecDepth 100000 in
theorem lc_18 {p : Program} {l : Launch} {e : Env} {s : State} {m : MethodId} {below : List Frame} {meth : Method} {c : Code} {H : Heap} {locs : List Loc} {b L i : Nat} {xs : Nat → Int32} {ls : Array Slot} {g : GP} {ad am : Nat → Nat} (N : Nat) {cs cs' ms ms' : St} {r : Int32} (X : LCx p s m c b L xs g) (hI : IW g (fun q => s.heap.size ≤ q) s.heap (wCX g (wM g am ms) ad cs) H locs) (hl : lv_has ls 4 [(0, .ref b), (1, .ref (ad 0)), (2, .ref (am 0)), (3, .int (nI i))]) (hi : i + 5 < L) (h1 : f_X5_check N cs = some (r, cs')) (h2 : f_X6_check N ms = some (r, ms'))
    (kk : ∀ (H : Heap) (locs : List Loc) (ls : Array Slot), IW g (fun q => s.heap.size ≤ q) s.heap (wCX g (wM g am ms') ad cs') H locs → lv_has ls 4 [(0, .ref b), (1, .ref (ad 0)), (2, .ref (am 0)), (3, .int (nI i))] → WL p l e s m b below meth c H locs (F0 m 1453 ls [])) : WL p l e s m b below meth c H locs (F0 m 836 ls []) := by
  obtain ⟨hx, hb, hml, hown, hts⟩ := id X.1.1
  refine lv_aload_n hx hb dL_law_836 rfl (lv_at hl 1 rfl) ?_
  refine l_I (rest := []) X hI (c_X5_check l g (wM g am ms) ad N cs h1) (cwV 0 hts gL_law_X5_check rfl rfl rfl hv_X5_check ⟨Nat.le_of_ble_eq_true rfl, Nat.le_of_ble_eq_true rfl⟩) (w_recv X.1 hI 0 at_C rfl) rfl hl.1 rfl (Nat.le_of_ble_eq_true rfl) dL_law_837 (fun H locs hI => ?_)
  refine lv_aload_n hx hb dL_law_840 rfl (lv_at hl 2 rfl) ?_
  have hI : IW g (fun q => s.heap.size ≤ q) s.heap (wMX g (wC g ad cs') am ms) H locs := hI
  refine l_I (rest := [.int r]) X hI (c_X6_check l g (wC g ad cs') am N ms h2) (cwV 0 hts gL_law_X6_check rfl rfl rfl hv_X6_check ⟨Nat.le_of_ble_eq_true rfl, Nat.le_of_ble_eq_true rfl⟩) (w_recv X.1 hI (wC g ad cs').length wM_ob rfl) rfl hl.1 rfl (Nat.le_of_ble_eq_true rfl) dL_law_841 (fun H locs hI => ?_)
  have hI : IW g (fun q => s.heap.size ≤ q) s.heap (wCX g (wM g am ms') ad cs') H locs := hI
  exact lv_icmp_eq (tgt := 1453) hx hb dL_law_844 (by decide) (fun _ => kk H locs ls hI hl) (fun cz => absurd rfl cz)
set_option maxHeartbeats 4000000 in
set_option maxRecDepth 100000 in
theorem lc_19 {p : Program} {l : Launch} {e : Env} {s : State} {m : MethodId} {below : List Frame} {meth : Method} {c : Code} {H : Heap} {locs : List Loc} {b L i : Nat} {xs : Nat → Int32} {ls : Array Slot} {g : GP} {ad am : Nat → Nat} (N : Nat) {cs cs' ms ms' : St} {r : Int32} (X : LCx p s m c b L xs g) (hI : IW g (fun q => s.heap.size ≤ q) s.heap (wCX g (wM g am ms) ad cs) H locs) (hl : lv_has ls 4 [(0, .ref b), (1, .ref (ad 0)), (2, .ref (am 0)), (3, .int (nI i))]) (hi : i + 5 < L) (h1 : f_X5_without N cs (xs (i + 1)) = some (r, cs')) (h2 : f_X6_without N ms (xs (i + 1)) = some (r, ms'))
    (kk : ∀ (H : Heap) (locs : List Loc) (ls : Array Slot), IW g (fun q => s.heap.size ≤ q) s.heap (wCX g (wM g am ms') ad cs') H locs → lv_has ls 4 [(0, .ref b), (1, .ref (ad 0)), (2, .ref (am 0)), (3, .int (nI i))] → WL p l e s m b below meth c H locs (F0 m 1453 ls [])) : WL p l e s m b below meth c H locs (F0 m 849 ls []) := by
  obtain ⟨hx, hb, hml, hown, hts⟩ := id X.1.1
  refine lv_aload_n hx hb dL_law_849 rfl (lv_at hl 1 rfl) ?_
  refine lv_aload_n hx hb dL_law_850 rfl (lv_at hl 0 rfl) ?_
  refine lv_iload_n hx hb dL_law_851 rfl (lv_at hl 3 rfl) ?_
  refine lv_iconst (v := 1) hx hb dL_law_852 (by decide) ?_
  refine lv_iadd hx hb dL_law_853 ?_
  refine l_ld (i := i) (j := 1) X hI (by omega) (nI_add i 1) dL_law_854 ?_
  refine l_I (rest := []) X hI (c_X5_without l g (wM g am ms) ad N (xs (i + 1)) cs h1) (cwV 1 hts gL_law_X5_without rfl rfl rfl hv_X5_without ⟨Nat.le_of_ble_eq_true rfl, Nat.le_of_ble_eq_true rfl⟩) (w_recv X.1 hI 0 at_C rfl) rfl hl.1 rfl (Nat.le_of_ble_eq_true rfl) dL_law_855 (fun H locs hI => ?_)
  refine lv_aload_n hx hb dL_law_858 rfl (lv_at hl 2 rfl) ?_
  refine lv_aload_n hx hb dL_law_859 rfl (lv_at hl 0 rfl) ?_
  refine lv_iload_n hx hb dL_law_860 rfl (lv_at hl 3 rfl) ?_
  refine lv_iconst (v := 1) hx hb dL_law_861 (by decide) ?_
  refine lv_iadd hx hb dL_law_862 ?_
  refine l_ld (i := i) (j := 1) X hI (by omega) (nI_add i 1) dL_law_863 ?_
  have hI : IW g (fun q => s.heap.size ≤ q) s.heap (wMX g (wC g ad cs') am ms) H locs := hI
  refine l_I (rest := [.int r]) X hI (c_X6_without l g (wC g ad cs') am N (xs (i + 1)) ms h2) (cwV 1 hts gL_law_X6_without rfl rfl rfl hv_X6_without ⟨Nat.le_of_ble_eq_true rfl, Nat.le_of_ble_eq_true rfl⟩) (w_recv X.1 hI (wC g ad cs').length wM_ob rfl) rfl hl.1 rfl (Nat.le_of_ble_eq_true rfl) dL_law_864 (fun H locs hI => ?_)
  have hI : IW g (fun q => s.heap.size ≤ q) s.heap (wCX g (wM g am ms') ad cs') H locs := hI
  exact lv_icmp_eq (tgt := 1453) hx hb dL_law_867 (by decide) (fun _ => kk H locs ls hI hl) (fun cz => absurd rfl cz)
set_option maxHeartbeats 4000000 in
set_option maxRecDepth 100000 in
theorem lc_20 {p : Program} {l : Launch} {e : Env} {s : State} {m : MethodId} {below : List Frame} {meth : Method} {c : Code} {H : Heap} {locs : List Loc} {b L i : Nat} {xs : Nat → Int32} {ls : Array Slot} {g : GP} {ad am : Nat → Nat} (N : Nat) {cs cs' ms ms' : St} {r : Int32} (X : LCx p s m c b L xs g) (hI : IW g (fun q => s.heap.size ≤ q) s.heap (wCX g (wM g am ms) ad cs) H locs) (hl : lv_has ls 4 [(0, .ref b), (1, .ref (ad 0)), (2, .ref (am 0)), (3, .int (nI i))]) (hi : i + 5 < L) (h1 : f_X5_ways N cs = some (r, cs')) (h2 : f_X6_ways N ms = some (r, ms'))
    (kk : ∀ (H : Heap) (locs : List Loc) (ls : Array Slot), IW g (fun q => s.heap.size ≤ q) s.heap (wCX g (wM g am ms') ad cs') H locs → lv_has ls 4 [(0, .ref b), (1, .ref (ad 0)), (2, .ref (am 0)), (3, .int (nI i))] → WL p l e s m b below meth c H locs (F0 m 1453 ls [])) : WL p l e s m b below meth c H locs (F0 m 872 ls []) := by
  obtain ⟨hx, hb, hml, hown, hts⟩ := id X.1.1
  refine lv_aload_n hx hb dL_law_872 rfl (lv_at hl 1 rfl) ?_
  refine l_I (rest := []) X hI (c_X5_ways l g (wM g am ms) ad N cs h1) (cwV 0 hts gL_law_X5_ways rfl rfl rfl hv_X5_ways ⟨Nat.le_of_ble_eq_true rfl, Nat.le_of_ble_eq_true rfl⟩) (w_recv X.1 hI 0 at_C rfl) rfl hl.1 rfl (Nat.le_of_ble_eq_true rfl) dL_law_873 (fun H locs hI => ?_)
  refine lv_aload_n hx hb dL_law_876 rfl (lv_at hl 2 rfl) ?_
  have hI : IW g (fun q => s.heap.size ≤ q) s.heap (wMX g (wC g ad cs') am ms) H locs := hI
  refine l_I (rest := [.int r]) X hI (c_X6_ways l g (wC g ad cs') am N ms h2) (cwV 0 hts gL_law_X6_ways rfl rfl rfl hv_X6_ways ⟨Nat.le_of_ble_eq_true rfl, Nat.le_of_ble_eq_true rfl⟩) (w_recv X.1 hI (wC g ad cs').length wM_ob rfl) rfl hl.1 rfl (Nat.le_of_ble_eq_true rfl) dL_law_877 (fun H locs hI => ?_)
  have hI : IW g (fun q => s.heap.size ≤ q) s.heap (wCX g (wM g am ms') ad cs') H locs := hI
  exact lv_icmp_eq (tgt := 1453) hx hb dL_law_880 (by decide) (fun _ => kk H locs ls hI hl) (fun cz => absurd rfl cz)
set_option maxHeartbeats 4000000 in
set_option maxRecDepth 100000 in
theorem lc_21 {p : Program} {l : Launch} {e : Env} {s : State} {m : MethodId} {below : List Frame} {meth : Method} {c : Code} {H : Heap} {locs : List Loc} {b L i : Nat} {xs : Nat → Int32} {ls : Array Slot} {g : GP} {ad am : Nat → Nat} (N : Nat) {cs cs' ms ms' : St} {r : Int32} (X : LCx p s m c b L xs g) (hI : IW g (fun q => s.heap.size ≤ q) s.heap (wCX g (wM g am ms) ad cs) H locs) (hl : lv_has ls 4 [(0, .ref b), (1, .ref (ad 0)), (2, .ref (am 0)), (3, .int (nI i))]) (hi : i + 5 < L) (h1 : f_X5_stretches N cs (xs (i + 1)) = some (r, cs')) (h2 : f_X6_stretches N ms (xs (i + 1)) = some (r, ms'))
    (kk : ∀ (H : Heap) (locs : List Loc) (ls : Array Slot), IW g (fun q => s.heap.size ≤ q) s.heap (wCX g (wM g am ms') ad cs') H locs → lv_has ls 4 [(0, .ref b), (1, .ref (ad 0)), (2, .ref (am 0)), (3, .int (nI i))] → WL p l e s m b below meth c H locs (F0 m 1453 ls [])) : WL p l e s m b below meth c H locs (F0 m 885 ls []) := by
  obtain ⟨hx, hb, hml, hown, hts⟩ := id X.1.1
  refine lv_aload_n hx hb dL_law_885 rfl (lv_at hl 1 rfl) ?_
  refine lv_aload_n hx hb dL_law_886 rfl (lv_at hl 0 rfl) ?_
  refine lv_iload_n hx hb dL_law_887 rfl (lv_at hl 3 rfl) ?_
  refine lv_iconst (v := 1) hx hb dL_law_888 (by decide) ?_
  refine lv_iadd hx hb dL_law_889 ?_
  refine l_ld (i := i) (j := 1) X hI (by omega) (nI_add i 1) dL_law_890 ?_
  refine l_I (rest := []) X hI (c_X5_stretches l g (wM g am ms) ad N (xs (i + 1)) cs h1) (cwV 1 hts gL_law_X5_stretches rfl rfl rfl hv_X5_stretches ⟨Nat.le_of_ble_eq_true rfl, Nat.le_of_ble_eq_true rfl⟩) (w_recv X.1 hI 0 at_C rfl) rfl hl.1 rfl (Nat.le_of_ble_eq_true rfl) dL_law_891 (fun H locs hI => ?_)
  refine lv_aload_n hx hb dL_law_894 rfl (lv_at hl 2 rfl) ?_
  refine lv_aload_n hx hb dL_law_895 rfl (lv_at hl 0 rfl) ?_
  refine lv_iload_n hx hb dL_law_896 rfl (lv_at hl 3 rfl) ?_
  refine lv_iconst (v := 1) hx hb dL_law_897 (by decide) ?_
  refine lv_iadd hx hb dL_law_898 ?_
  refine l_ld (i := i) (j := 1) X hI (by omega) (nI_add i 1) dL_law_899 ?_
  have hI : IW g (fun q => s.heap.size ≤ q) s.heap (wMX g (wC g ad cs') am ms) H locs := hI
  refine l_I (rest := [.int r]) X hI (c_X6_stretches l g (wC g ad cs') am N (xs (i + 1)) ms h2) (cwV 1 hts gL_law_X6_stretches rfl rfl rfl hv_X6_stretches ⟨Nat.le_of_ble_eq_true rfl, Nat.le_of_ble_eq_true rfl⟩) (w_recv X.1 hI (wC g ad cs').length wM_ob rfl) rfl hl.1 rfl (Nat.le_of_ble_eq_true rfl) dL_law_900 (fun H locs hI => ?_)
  have hI : IW g (fun q => s.heap.size ≤ q) s.heap (wCX g (wM g am ms') ad cs') H locs := hI
  exact lv_icmp_eq (tgt := 1453) hx hb dL_law_903 (by decide) (fun _ => kk H locs ls hI hl) (fun cz => absurd rfl cz)
set_option maxHeartbeats 4000000 in
set_option maxRecDepth 100000 in
theorem lc_22 {p : Program} {l : Launch} {e : Env} {s : State} {m : MethodId} {below : List Frame} {meth : Method} {c : Code} {H : Heap} {locs : List Loc} {b L i : Nat} {xs : Nat → Int32} {ls : Array Slot} {g : GP} {ad am : Nat → Nat} (N : Nat) {cs cs' ms ms' : St} {r : Int32} (X : LCx p s m c b L xs g) (hI : IW g (fun q => s.heap.size ≤ q) s.heap (wCX g (wM g am ms) ad cs) H locs) (hl : lv_has ls 4 [(0, .ref b), (1, .ref (ad 0)), (2, .ref (am 0)), (3, .int (nI i))]) (hi : i + 5 < L) (h1 : f_X5_border N cs (xs (i + 1)) (xs (i + 2)) = some (r, cs')) (h2 : f_X6_border N ms (xs (i + 1)) (xs (i + 2)) = some (r, ms'))
    (kk : ∀ (H : Heap) (locs : List Loc) (ls : Array Slot), IW g (fun q => s.heap.size ≤ q) s.heap (wCX g (wM g am ms') ad cs') H locs → lv_has ls 4 [(0, .ref b), (1, .ref (ad 0)), (2, .ref (am 0)), (3, .int (nI i))] → WL p l e s m b below meth c H locs (F0 m 1453 ls [])) : WL p l e s m b below meth c H locs (F0 m 908 ls []) := by
  obtain ⟨hx, hb, hml, hown, hts⟩ := id X.1.1
  refine lv_aload_n hx hb dL_law_908 rfl (lv_at hl 1 rfl) ?_
  refine lv_aload_n hx hb dL_law_909 rfl (lv_at hl 0 rfl) ?_
  refine lv_iload_n hx hb dL_law_910 rfl (lv_at hl 3 rfl) ?_
  refine lv_iconst (v := 1) hx hb dL_law_911 (by decide) ?_
  refine lv_iadd hx hb dL_law_912 ?_
  refine l_ld (i := i) (j := 1) X hI (by omega) (nI_add i 1) dL_law_913 ?_
  refine lv_aload_n hx hb dL_law_914 rfl (lv_at hl 0 rfl) ?_
  refine lv_iload_n hx hb dL_law_915 rfl (lv_at hl 3 rfl) ?_
  refine lv_iconst (v := 2) hx hb dL_law_916 (by decide) ?_
  refine lv_iadd hx hb dL_law_917 ?_
  refine l_ld (i := i) (j := 2) X hI (by omega) (nI_add i 2) dL_law_918 ?_
  refine l_I (rest := []) X hI (c_X5_border l g (wM g am ms) ad N (xs (i + 1)) (xs (i + 2)) cs h1) (cwV 2 hts gL_law_X5_border rfl rfl rfl hv_X5_border ⟨Nat.le_of_ble_eq_true rfl, Nat.le_of_ble_eq_true rfl⟩) (w_recv X.1 hI 0 at_C rfl) rfl hl.1 rfl (Nat.le_of_ble_eq_true rfl) dL_law_919 (fun H locs hI => ?_)
  refine lv_aload_n hx hb dL_law_922 rfl (lv_at hl 2 rfl) ?_
  refine lv_aload_n hx hb dL_law_923 rfl (lv_at hl 0 rfl) ?_
  refine lv_iload_n hx hb dL_law_924 rfl (lv_at hl 3 rfl) ?_
  refine lv_iconst (v := 1) hx hb dL_law_925 (by decide) ?_
  refine lv_iadd hx hb dL_law_926 ?_
  refine l_ld (i := i) (j := 1) X hI (by omega) (nI_add i 1) dL_law_927 ?_
  refine lv_aload_n hx hb dL_law_928 rfl (lv_at hl 0 rfl) ?_
  refine lv_iload_n hx hb dL_law_929 rfl (lv_at hl 3 rfl) ?_
  refine lv_iconst (v := 2) hx hb dL_law_930 (by decide) ?_
  refine lv_iadd hx hb dL_law_931 ?_
  refine l_ld (i := i) (j := 2) X hI (by omega) (nI_add i 2) dL_law_932 ?_
  have hI : IW g (fun q => s.heap.size ≤ q) s.heap (wMX g (wC g ad cs') am ms) H locs := hI
  refine l_I (rest := [.int r]) X hI (c_X6_border l g (wC g ad cs') am N (xs (i + 1)) (xs (i + 2)) ms h2) (cwV 2 hts gL_law_X6_border rfl rfl rfl hv_X6_border ⟨Nat.le_of_ble_eq_true rfl, Nat.le_of_ble_eq_true rfl⟩) (w_recv X.1 hI (wC g ad cs').length wM_ob rfl) rfl hl.1 rfl (Nat.le_of_ble_eq_true rfl) dL_law_933 (fun H locs hI => ?_)
  have hI : IW g (fun q => s.heap.size ≤ q) s.heap (wCX g (wM g am ms') ad cs') H locs := hI
  exact lv_icmp_eq (tgt := 1453) hx hb dL_law_936 (by decide) (fun _ => kk H locs ls hI hl) (fun cz => absurd rfl cz)
set_option maxHeartbeats 4000000 in
set_option maxRecDepth 100000 in
theorem lc_23 {p : Program} {l : Launch} {e : Env} {s : State} {m : MethodId} {below : List Frame} {meth : Method} {c : Code} {H : Heap} {locs : List Loc} {b L i : Nat} {xs : Nat → Int32} {ls : Array Slot} {g : GP} {ad am : Nat → Nat} (N : Nat) {cs cs' ms ms' : St} {r : Int32} (X : LCx p s m c b L xs g) (hI : IW g (fun q => s.heap.size ≤ q) s.heap (wCX g (wM g am ms) ad cs) H locs) (hl : lv_has ls 4 [(0, .ref b), (1, .ref (ad 0)), (2, .ref (am 0)), (3, .int (nI i))]) (hi : i + 5 < L) (h1 : f_X5_year N cs (xs (i + 1)) (bz (xs (i + 2))) = some (r, cs')) (h2 : f_X6_year N ms (xs (i + 1)) (bz (xs (i + 2))) = some (r, ms'))
    (kk : ∀ (H : Heap) (locs : List Loc) (ls : Array Slot), IW g (fun q => s.heap.size ≤ q) s.heap (wCX g (wM g am ms') ad cs') H locs → lv_has ls 4 [(0, .ref b), (1, .ref (ad 0)), (2, .ref (am 0)), (3, .int (nI i))] → WL p l e s m b below meth c H locs (F0 m 1453 ls [])) : WL p l e s m b below meth c H locs (F0 m 941 ls []) := by
  obtain ⟨hx, hb, hml, hown, hts⟩ := id X.1.1
  by_cases cb2 : xs (i + 2) = 0
  · rw [bz_0 cb2] at h1 h2
    refine lv_aload_n hx hb dL_law_941 rfl (lv_at hl 1 rfl) ?_
    refine lv_aload_n hx hb dL_law_942 rfl (lv_at hl 0 rfl) ?_
    refine lv_iload_n hx hb dL_law_943 rfl (lv_at hl 3 rfl) ?_
    refine lv_iconst (v := 1) hx hb dL_law_944 (by decide) ?_
    refine lv_iadd hx hb dL_law_945 ?_
    refine l_ld (i := i) (j := 1) X hI (by omega) (nI_add i 1) dL_law_946 ?_
    refine lv_aload_n hx hb dL_law_947 rfl (lv_at hl 0 rfl) ?_
    refine lv_iload_n hx hb dL_law_948 rfl (lv_at hl 3 rfl) ?_
    refine lv_iconst (v := 2) hx hb dL_law_949 (by decide) ?_
    refine lv_iadd hx hb dL_law_950 ?_
    refine l_ld (i := i) (j := 2) X hI (by omega) (nI_add i 2) dL_law_951 ?_
    refine lv_if_eq (tgt := 959) hx hb dL_law_952 (by decide) (fun _ => ?_) (fun cz => absurd cb2 cz)
    refine lv_iconst (v := 0) hx hb dL_law_959 (by decide) ?_
    refine l_I (rest := []) X hI (c_X5_year l g (wM g am ms) ad N (xs (i + 1)) false cs h1) (cwV 2 hts gL_law_X5_year rfl rfl rfl hv_X5_year ⟨Nat.le_of_ble_eq_true rfl, Nat.le_of_ble_eq_true rfl⟩) (w_recv X.1 hI 0 at_C rfl) rfl hl.1 rfl (Nat.le_of_ble_eq_true rfl) dL_law_960 (fun H locs hI => ?_)
    refine lv_aload_n hx hb dL_law_963 rfl (lv_at hl 2 rfl) ?_
    refine lv_aload_n hx hb dL_law_964 rfl (lv_at hl 0 rfl) ?_
    refine lv_iload_n hx hb dL_law_965 rfl (lv_at hl 3 rfl) ?_
    refine lv_iconst (v := 1) hx hb dL_law_966 (by decide) ?_
    refine lv_iadd hx hb dL_law_967 ?_
    refine l_ld (i := i) (j := 1) X hI (by omega) (nI_add i 1) dL_law_968 ?_
    refine lv_aload_n hx hb dL_law_969 rfl (lv_at hl 0 rfl) ?_
    refine lv_iload_n hx hb dL_law_970 rfl (lv_at hl 3 rfl) ?_
    refine lv_iconst (v := 2) hx hb dL_law_971 (by decide) ?_
    refine lv_iadd hx hb dL_law_972 ?_
    refine l_ld (i := i) (j := 2) X hI (by omega) (nI_add i 2) dL_law_973 ?_
    refine lv_if_eq (tgt := 981) hx hb dL_law_974 (by decide) (fun _ => ?_) (fun cz => absurd cb2 cz)
    refine lv_iconst (v := 0) hx hb dL_law_981 (by decide) ?_
    have hI : IW g (fun q => s.heap.size ≤ q) s.heap (wMX g (wC g ad cs') am ms) H locs := hI
    refine l_I (rest := [.int r]) X hI (c_X6_year l g (wC g ad cs') am N (xs (i + 1)) false ms h2) (cwV 2 hts gL_law_X6_year rfl rfl rfl hv_X6_year ⟨Nat.le_of_ble_eq_true rfl, Nat.le_of_ble_eq_true rfl⟩) (w_recv X.1 hI (wC g ad cs').length wM_ob rfl) rfl hl.1 rfl (Nat.le_of_ble_eq_true rfl) dL_law_982 (fun H locs hI => ?_)
    have hI : IW g (fun q => s.heap.size ≤ q) s.heap (wCX g (wM g am ms') ad cs') H locs := hI
    exact lv_icmp_eq (tgt := 1453) hx hb dL_law_985 (by decide) (fun _ => kk H locs ls hI hl) (fun cz => absurd rfl cz)
  · rw [bz_1 cb2] at h1 h2
    refine lv_aload_n hx hb dL_law_941 rfl (lv_at hl 1 rfl) ?_
    refine lv_aload_n hx hb dL_law_942 rfl (lv_at hl 0 rfl) ?_
    refine lv_iload_n hx hb dL_law_943 rfl (lv_at hl 3 rfl) ?_
    refine lv_iconst (v := 1) hx hb dL_law_944 (by decide) ?_
    refine lv_iadd hx hb dL_law_945 ?_
    refine l_ld (i := i) (j := 1) X hI (by omega) (nI_add i 1) dL_law_946 ?_
    refine lv_aload_n hx hb dL_law_947 rfl (lv_at hl 0 rfl) ?_
    refine lv_iload_n hx hb dL_law_948 rfl (lv_at hl 3 rfl) ?_
    refine lv_iconst (v := 2) hx hb dL_law_949 (by decide) ?_
    refine lv_iadd hx hb dL_law_950 ?_
    refine l_ld (i := i) (j := 2) X hI (by omega) (nI_add i 2) dL_law_951 ?_
    refine lv_if_eq (tgt := 959) hx hb dL_law_952 (by decide) (fun cz => absurd cz cb2) (fun _ => ?_)
    refine lv_iconst (v := 1) hx hb dL_law_955 (by decide) ?_
    refine lv_goto (tgt := 960) hx hb dL_law_956 (by decide) ?_
    refine l_I (rest := []) X hI (c_X5_year l g (wM g am ms) ad N (xs (i + 1)) true cs h1) (cwV 2 hts gL_law_X5_year rfl rfl rfl hv_X5_year ⟨Nat.le_of_ble_eq_true rfl, Nat.le_of_ble_eq_true rfl⟩) (w_recv X.1 hI 0 at_C rfl) rfl hl.1 rfl (Nat.le_of_ble_eq_true rfl) dL_law_960 (fun H locs hI => ?_)
    refine lv_aload_n hx hb dL_law_963 rfl (lv_at hl 2 rfl) ?_
    refine lv_aload_n hx hb dL_law_964 rfl (lv_at hl 0 rfl) ?_
    refine lv_iload_n hx hb dL_law_965 rfl (lv_at hl 3 rfl) ?_
    refine lv_iconst (v := 1) hx hb dL_law_966 (by decide) ?_
    refine lv_iadd hx hb dL_law_967 ?_
    refine l_ld (i := i) (j := 1) X hI (by omega) (nI_add i 1) dL_law_968 ?_
    refine lv_aload_n hx hb dL_law_969 rfl (lv_at hl 0 rfl) ?_
    refine lv_iload_n hx hb dL_law_970 rfl (lv_at hl 3 rfl) ?_
    refine lv_iconst (v := 2) hx hb dL_law_971 (by decide) ?_
    refine lv_iadd hx hb dL_law_972 ?_
    refine l_ld (i := i) (j := 2) X hI (by omega) (nI_add i 2) dL_law_973 ?_
    refine lv_if_eq (tgt := 981) hx hb dL_law_974 (by decide) (fun cz => absurd cz cb2) (fun _ => ?_)
    refine lv_iconst (v := 1) hx hb dL_law_977 (by decide) ?_
    refine lv_goto (tgt := 982) hx hb dL_law_978 (by decide) ?_
    have hI : IW g (fun q => s.heap.size ≤ q) s.heap (wMX g (wC g ad cs') am ms) H locs := hI
    refine l_I (rest := [.int r]) X hI (c_X6_year l g (wC g ad cs') am N (xs (i + 1)) true ms h2) (cwV 2 hts gL_law_X6_year rfl rfl rfl hv_X6_year ⟨Nat.le_of_ble_eq_true rfl, Nat.le_of_ble_eq_true rfl⟩) (w_recv X.1 hI (wC g ad cs').length wM_ob rfl) rfl hl.1 rfl (Nat.le_of_ble_eq_true rfl) dL_law_982 (fun H locs hI => ?_)
    have hI : IW g (fun q => s.heap.size ≤ q) s.heap (wCX g (wM g am ms') ad cs') H locs := hI
    exact lv_icmp_eq (tgt := 1453) hx hb dL_law_985 (by decide) (fun _ => kk H locs ls hI hl) (fun cz => absurd rfl cz)
set_option maxHeartbeats 4000000 in
set_option maxRecDepth 100000 in
theorem lc_24 {p : Program} {l : Launch} {e : Env} {s : State} {m : MethodId} {below : List Frame} {meth : Method} {c : Code} {H : Heap} {locs : List Loc} {b L i : Nat} {xs : Nat → Int32} {ls : Array Slot} {g : GP} {ad am : Nat → Nat} (N : Nat) {cs cs' ms : St} {r : Int32} (X : LCx p s m c b L xs g) (hI : IW g (fun q => s.heap.size ≤ q) s.heap (wCX g (wM g am ms) ad cs) H locs) (hl : lv_has ls 4 [(0, .ref b), (1, .ref (ad 0)), (2, .ref (am 0)), (3, .int (nI i))]) (hi : i + 5 < L) (h1 : f_X5_wrong N cs = some (r, cs')) (h2 : f_X6_wrong N ms = some r)
    (kk : ∀ (H : Heap) (locs : List Loc) (ls : Array Slot), IW g (fun q => s.heap.size ≤ q) s.heap (wCX g (wM g am ms) ad cs') H locs → lv_has ls 4 [(0, .ref b), (1, .ref (ad 0)), (2, .ref (am 0)), (3, .int (nI i))] → WL p l e s m b below meth c H locs (F0 m 1453 ls [])) : WL p l e s m b below meth c H locs (F0 m 990 ls []) := by
  obtain ⟨hx, hb, hml, hown, hts⟩ := id X.1.1
  refine lv_aload_n hx hb dL_law_990 rfl (lv_at hl 1 rfl) ?_
  refine l_I (rest := []) X hI (c_X5_wrong l g (wM g am ms) ad N cs h1) (cwV 0 hts gL_law_X5_wrong rfl rfl rfl hv_X5_wrong ⟨Nat.le_of_ble_eq_true rfl, Nat.le_of_ble_eq_true rfl⟩) (w_recv X.1 hI 0 at_C rfl) rfl hl.1 rfl (Nat.le_of_ble_eq_true rfl) dL_law_991 (fun H locs hI => ?_)
  refine lv_aload_n hx hb dL_law_994 rfl (lv_at hl 2 rfl) ?_
  have hI : IW g (fun q => s.heap.size ≤ q) s.heap (wMX g (wC g ad cs') am ms) H locs := hI
  refine l_I (rest := [.int r]) X hI (c_X6_wrong l g (wC g ad cs') am N ms h2) (cwV 0 hts gL_law_X6_wrong rfl rfl rfl hv_X6_wrong ⟨Nat.le_of_ble_eq_true rfl, Nat.le_of_ble_eq_true rfl⟩) (w_recv X.1 hI (wC g ad cs').length wM_ob rfl) rfl hl.1 rfl (Nat.le_of_ble_eq_true rfl) dL_law_995 (fun H locs hI => ?_)
  have hI : IW g (fun q => s.heap.size ≤ q) s.heap (wCX g (wM g am ms) ad cs') H locs := hI
  exact lv_icmp_eq (tgt := 1453) hx hb dL_law_998 (by decide) (fun _ => kk H locs ls hI hl) (fun cz => absurd rfl cz)
set_option maxHeartbeats 4000000 in
set_option maxRecDepth 100000 in
theorem lc_25 {p : Program} {l : Launch} {e : Env} {s : State} {m : MethodId} {below : List Frame} {meth : Method} {c : Code} {H : Heap} {locs : List Loc} {b L i : Nat} {xs : Nat → Int32} {ls : Array Slot} {g : GP} {ad am : Nat → Nat} (N : Nat) {cs cs' ms ms' : St} {r : Int32} (X : LCx p s m c b L xs g) (hI : IW g (fun q => s.heap.size ≤ q) s.heap (wCX g (wM g am ms) ad cs) H locs) (hl : lv_has ls 4 [(0, .ref b), (1, .ref (ad 0)), (2, .ref (am 0)), (3, .int (nI i))]) (hi : i + 5 < L) (h1 : f_X5_in N cs (xs (i + 1)) = some (r, cs')) (h2 : f_X6_in N ms (xs (i + 1)) = some (r, ms'))
    (kk : ∀ (H : Heap) (locs : List Loc) (ls : Array Slot), IW g (fun q => s.heap.size ≤ q) s.heap (wCX g (wM g am ms') ad cs') H locs → lv_has ls 4 [(0, .ref b), (1, .ref (ad 0)), (2, .ref (am 0)), (3, .int (nI i))] → WL p l e s m b below meth c H locs (F0 m 1453 ls [])) : WL p l e s m b below meth c H locs (F0 m 1003 ls []) := by
  obtain ⟨hx, hb, hml, hown, hts⟩ := id X.1.1
  refine lv_aload_n hx hb dL_law_1003 rfl (lv_at hl 1 rfl) ?_
  refine lv_aload_n hx hb dL_law_1004 rfl (lv_at hl 0 rfl) ?_
  refine lv_iload_n hx hb dL_law_1005 rfl (lv_at hl 3 rfl) ?_
  refine lv_iconst (v := 1) hx hb dL_law_1006 (by decide) ?_
  refine lv_iadd hx hb dL_law_1007 ?_
  refine l_ld (i := i) (j := 1) X hI (by omega) (nI_add i 1) dL_law_1008 ?_
  refine l_I (rest := []) X hI (c_X5_in l g (wM g am ms) ad N (xs (i + 1)) cs h1) (cwV 1 hts gL_law_X5_in rfl rfl rfl hv_X5_in ⟨Nat.le_of_ble_eq_true rfl, Nat.le_of_ble_eq_true rfl⟩) (w_recv X.1 hI 0 at_C rfl) rfl hl.1 rfl (Nat.le_of_ble_eq_true rfl) dL_law_1009 (fun H locs hI => ?_)
  refine lv_aload_n hx hb dL_law_1012 rfl (lv_at hl 2 rfl) ?_
  refine lv_aload_n hx hb dL_law_1013 rfl (lv_at hl 0 rfl) ?_
  refine lv_iload_n hx hb dL_law_1014 rfl (lv_at hl 3 rfl) ?_
  refine lv_iconst (v := 1) hx hb dL_law_1015 (by decide) ?_
  refine lv_iadd hx hb dL_law_1016 ?_
  refine l_ld (i := i) (j := 1) X hI (by omega) (nI_add i 1) dL_law_1017 ?_
  have hI : IW g (fun q => s.heap.size ≤ q) s.heap (wMX g (wC g ad cs') am ms) H locs := hI
  refine l_I (rest := [.int r]) X hI (c_X6_in l g (wC g ad cs') am N (xs (i + 1)) ms h2) (cwV 1 hts gL_law_X6_in rfl rfl rfl hv_X6_in ⟨Nat.le_of_ble_eq_true rfl, Nat.le_of_ble_eq_true rfl⟩) (w_recv X.1 hI (wC g ad cs').length wM_ob rfl) rfl hl.1 rfl (Nat.le_of_ble_eq_true rfl) dL_law_1018 (fun H locs hI => ?_)
  have hI : IW g (fun q => s.heap.size ≤ q) s.heap (wCX g (wM g am ms') ad cs') H locs := hI
  exact lv_icmp_eq (tgt := 1453) hx hb dL_law_1021 (by decide) (fun _ => kk H locs ls hI hl) (fun cz => absurd rfl cz)
set_option maxHeartbeats 4000000 in
set_option maxRecDepth 100000 in
theorem lc_26 {p : Program} {l : Launch} {e : Env} {s : State} {m : MethodId} {below : List Frame} {meth : Method} {c : Code} {H : Heap} {locs : List Loc} {b L i : Nat} {xs : Nat → Int32} {ls : Array Slot} {g : GP} {ad am : Nat → Nat} (N : Nat) {cs cs' ms ms' : St} {r : Int32} (X : LCx p s m c b L xs g) (hI : IW g (fun q => s.heap.size ≤ q) s.heap (wCX g (wM g am ms) ad cs) H locs) (hl : lv_has ls 4 [(0, .ref b), (1, .ref (ad 0)), (2, .ref (am 0)), (3, .int (nI i))]) (hi : i + 5 < L) (h1 : f_X5_used N cs (xs (i + 1)) (bz (xs (i + 2))) = some (r, cs')) (h2 : f_X6_used N ms (xs (i + 1)) (bz (xs (i + 2))) = some (r, ms'))
    (kk : ∀ (H : Heap) (locs : List Loc) (ls : Array Slot), IW g (fun q => s.heap.size ≤ q) s.heap (wCX g (wM g am ms') ad cs') H locs → lv_has ls 4 [(0, .ref b), (1, .ref (ad 0)), (2, .ref (am 0)), (3, .int (nI i))] → WL p l e s m b below meth c H locs (F0 m 1453 ls [])) : WL p l e s m b below meth c H locs (F0 m 1026 ls []) := by
  obtain ⟨hx, hb, hml, hown, hts⟩ := id X.1.1
  by_cases cb2 : xs (i + 2) = 0
  · rw [bz_0 cb2] at h1 h2
    refine lv_aload_n hx hb dL_law_1026 rfl (lv_at hl 1 rfl) ?_
    refine lv_aload_n hx hb dL_law_1027 rfl (lv_at hl 0 rfl) ?_
    refine lv_iload_n hx hb dL_law_1028 rfl (lv_at hl 3 rfl) ?_
    refine lv_iconst (v := 1) hx hb dL_law_1029 (by decide) ?_
    refine lv_iadd hx hb dL_law_1030 ?_
    refine l_ld (i := i) (j := 1) X hI (by omega) (nI_add i 1) dL_law_1031 ?_
    refine lv_aload_n hx hb dL_law_1032 rfl (lv_at hl 0 rfl) ?_
    refine lv_iload_n hx hb dL_law_1033 rfl (lv_at hl 3 rfl) ?_
    refine lv_iconst (v := 2) hx hb dL_law_1034 (by decide) ?_
    refine lv_iadd hx hb dL_law_1035 ?_
    refine l_ld (i := i) (j := 2) X hI (by omega) (nI_add i 2) dL_law_1036 ?_
    refine lv_if_eq (tgt := 1044) hx hb dL_law_1037 (by decide) (fun _ => ?_) (fun cz => absurd cb2 cz)
    refine lv_iconst (v := 0) hx hb dL_law_1044 (by decide) ?_
    refine l_I (rest := []) X hI (c_X5_used l g (wM g am ms) ad N (xs (i + 1)) false cs h1) (cwV 2 hts gL_law_X5_used rfl rfl rfl hv_X5_used ⟨Nat.le_of_ble_eq_true rfl, Nat.le_of_ble_eq_true rfl⟩) (w_recv X.1 hI 0 at_C rfl) rfl hl.1 rfl (Nat.le_of_ble_eq_true rfl) dL_law_1045 (fun H locs hI => ?_)
    refine lv_aload_n hx hb dL_law_1048 rfl (lv_at hl 2 rfl) ?_
    refine lv_aload_n hx hb dL_law_1049 rfl (lv_at hl 0 rfl) ?_
    refine lv_iload_n hx hb dL_law_1050 rfl (lv_at hl 3 rfl) ?_
    refine lv_iconst (v := 1) hx hb dL_law_1051 (by decide) ?_
    refine lv_iadd hx hb dL_law_1052 ?_
    refine l_ld (i := i) (j := 1) X hI (by omega) (nI_add i 1) dL_law_1053 ?_
    refine lv_aload_n hx hb dL_law_1054 rfl (lv_at hl 0 rfl) ?_
    refine lv_iload_n hx hb dL_law_1055 rfl (lv_at hl 3 rfl) ?_
    refine lv_iconst (v := 2) hx hb dL_law_1056 (by decide) ?_
    refine lv_iadd hx hb dL_law_1057 ?_
    refine l_ld (i := i) (j := 2) X hI (by omega) (nI_add i 2) dL_law_1058 ?_
    refine lv_if_eq (tgt := 1066) hx hb dL_law_1059 (by decide) (fun _ => ?_) (fun cz => absurd cb2 cz)
    refine lv_iconst (v := 0) hx hb dL_law_1066 (by decide) ?_
    have hI : IW g (fun q => s.heap.size ≤ q) s.heap (wMX g (wC g ad cs') am ms) H locs := hI
    refine l_I (rest := [.int r]) X hI (c_X6_used l g (wC g ad cs') am N (xs (i + 1)) false ms h2) (cwV 2 hts gL_law_X6_used rfl rfl rfl hv_X6_used ⟨Nat.le_of_ble_eq_true rfl, Nat.le_of_ble_eq_true rfl⟩) (w_recv X.1 hI (wC g ad cs').length wM_ob rfl) rfl hl.1 rfl (Nat.le_of_ble_eq_true rfl) dL_law_1067 (fun H locs hI => ?_)
    have hI : IW g (fun q => s.heap.size ≤ q) s.heap (wCX g (wM g am ms') ad cs') H locs := hI
    exact lv_icmp_eq (tgt := 1453) hx hb dL_law_1070 (by decide) (fun _ => kk H locs ls hI hl) (fun cz => absurd rfl cz)
  · rw [bz_1 cb2] at h1 h2
    refine lv_aload_n hx hb dL_law_1026 rfl (lv_at hl 1 rfl) ?_
    refine lv_aload_n hx hb dL_law_1027 rfl (lv_at hl 0 rfl) ?_
    refine lv_iload_n hx hb dL_law_1028 rfl (lv_at hl 3 rfl) ?_
    refine lv_iconst (v := 1) hx hb dL_law_1029 (by decide) ?_
    refine lv_iadd hx hb dL_law_1030 ?_
    refine l_ld (i := i) (j := 1) X hI (by omega) (nI_add i 1) dL_law_1031 ?_
    refine lv_aload_n hx hb dL_law_1032 rfl (lv_at hl 0 rfl) ?_
    refine lv_iload_n hx hb dL_law_1033 rfl (lv_at hl 3 rfl) ?_
    refine lv_iconst (v := 2) hx hb dL_law_1034 (by decide) ?_
    refine lv_iadd hx hb dL_law_1035 ?_
    refine l_ld (i := i) (j := 2) X hI (by omega) (nI_add i 2) dL_law_1036 ?_
    refine lv_if_eq (tgt := 1044) hx hb dL_law_1037 (by decide) (fun cz => absurd cz cb2) (fun _ => ?_)
    refine lv_iconst (v := 1) hx hb dL_law_1040 (by decide) ?_
    refine lv_goto (tgt := 1045) hx hb dL_law_1041 (by decide) ?_
    refine l_I (rest := []) X hI (c_X5_used l g (wM g am ms) ad N (xs (i + 1)) true cs h1) (cwV 2 hts gL_law_X5_used rfl rfl rfl hv_X5_used ⟨Nat.le_of_ble_eq_true rfl, Nat.le_of_ble_eq_true rfl⟩) (w_recv X.1 hI 0 at_C rfl) rfl hl.1 rfl (Nat.le_of_ble_eq_true rfl) dL_law_1045 (fun H locs hI => ?_)
    refine lv_aload_n hx hb dL_law_1048 rfl (lv_at hl 2 rfl) ?_
    refine lv_aload_n hx hb dL_law_1049 rfl (lv_at hl 0 rfl) ?_
    refine lv_iload_n hx hb dL_law_1050 rfl (lv_at hl 3 rfl) ?_
    refine lv_iconst (v := 1) hx hb dL_law_1051 (by decide) ?_
    refine lv_iadd hx hb dL_law_1052 ?_
    refine l_ld (i := i) (j := 1) X hI (by omega) (nI_add i 1) dL_law_1053 ?_
    refine lv_aload_n hx hb dL_law_1054 rfl (lv_at hl 0 rfl) ?_
    refine lv_iload_n hx hb dL_law_1055 rfl (lv_at hl 3 rfl) ?_
    refine lv_iconst (v := 2) hx hb dL_law_1056 (by decide) ?_
    refine lv_iadd hx hb dL_law_1057 ?_
    refine l_ld (i := i) (j := 2) X hI (by omega) (nI_add i 2) dL_law_1058 ?_
    refine lv_if_eq (tgt := 1066) hx hb dL_law_1059 (by decide) (fun cz => absurd cz cb2) (fun _ => ?_)
    refine lv_iconst (v := 1) hx hb dL_law_1062 (by decide) ?_
    refine lv_goto (tgt := 1067) hx hb dL_law_1063 (by decide) ?_
    have hI : IW g (fun q => s.heap.size ≤ q) s.heap (wMX g (wC g ad cs') am ms) H locs := hI
    refine l_I (rest := [.int r]) X hI (c_X6_used l g (wC g ad cs') am N (xs (i + 1)) true ms h2) (cwV 2 hts gL_law_X6_used rfl rfl rfl hv_X6_used ⟨Nat.le_of_ble_eq_true rfl, Nat.le_of_ble_eq_true rfl⟩) (w_recv X.1 hI (wC g ad cs').length wM_ob rfl) rfl hl.1 rfl (Nat.le_of_ble_eq_true rfl) dL_law_1067 (fun H locs hI => ?_)
    have hI : IW g (fun q => s.heap.size ≤ q) s.heap (wCX g (wM g am ms') ad cs') H locs := hI
    exact lv_icmp_eq (tgt := 1453) hx hb dL_law_1070 (by decide) (fun _ => kk H locs ls hI hl) (fun cz => absurd rfl cz)
set_option maxHeartbeats 4000000 in
set_option maxRecDepth 100000 in
theorem lc_27 {p : Program} {l : Launch} {e : Env} {s : State} {m : MethodId} {below : List Frame} {meth : Method} {c : Code} {H : Heap} {locs : List Loc} {b L i : Nat} {xs : Nat → Int32} {ls : Array Slot} {g : GP} {ad am : Nat → Nat} (N : Nat) {cs cs' ms ms' : St} {r : Int32} (X : LCx p s m c b L xs g) (hI : IW g (fun q => s.heap.size ≤ q) s.heap (wCX g (wM g am ms) ad cs) H locs) (hl : lv_has ls 4 [(0, .ref b), (1, .ref (ad 0)), (2, .ref (am 0)), (3, .int (nI i))]) (hi : i + 5 < L) (h1 : f_X5_family N cs (xs (i + 1)) (xs (i + 2)) = some (r, cs')) (h2 : f_X6_family N ms (xs (i + 1)) (xs (i + 2)) = some (r, ms'))
    (kk : ∀ (H : Heap) (locs : List Loc) (ls : Array Slot), IW g (fun q => s.heap.size ≤ q) s.heap (wCX g (wM g am ms') ad cs') H locs → lv_has ls 4 [(0, .ref b), (1, .ref (ad 0)), (2, .ref (am 0)), (3, .int (nI i))] → WL p l e s m b below meth c H locs (F0 m 1453 ls [])) : WL p l e s m b below meth c H locs (F0 m 1075 ls []) := by
  obtain ⟨hx, hb, hml, hown, hts⟩ := id X.1.1
  refine lv_aload_n hx hb dL_law_1075 rfl (lv_at hl 1 rfl) ?_
  refine lv_aload_n hx hb dL_law_1076 rfl (lv_at hl 0 rfl) ?_
  refine lv_iload_n hx hb dL_law_1077 rfl (lv_at hl 3 rfl) ?_
  refine lv_iconst (v := 1) hx hb dL_law_1078 (by decide) ?_
  refine lv_iadd hx hb dL_law_1079 ?_
  refine l_ld (i := i) (j := 1) X hI (by omega) (nI_add i 1) dL_law_1080 ?_
  refine lv_aload_n hx hb dL_law_1081 rfl (lv_at hl 0 rfl) ?_
  refine lv_iload_n hx hb dL_law_1082 rfl (lv_at hl 3 rfl) ?_
  refine lv_iconst (v := 2) hx hb dL_law_1083 (by decide) ?_
  refine lv_iadd hx hb dL_law_1084 ?_
  refine l_ld (i := i) (j := 2) X hI (by omega) (nI_add i 2) dL_law_1085 ?_
  refine l_I (rest := []) X hI (c_X5_family l g (wM g am ms) ad N (xs (i + 1)) (xs (i + 2)) cs h1) (cwV 2 hts gL_law_X5_family rfl rfl rfl hv_X5_family ⟨Nat.le_of_ble_eq_true rfl, Nat.le_of_ble_eq_true rfl⟩) (w_recv X.1 hI 0 at_C rfl) rfl hl.1 rfl (Nat.le_of_ble_eq_true rfl) dL_law_1086 (fun H locs hI => ?_)
  refine lv_aload_n hx hb dL_law_1089 rfl (lv_at hl 2 rfl) ?_
  refine lv_aload_n hx hb dL_law_1090 rfl (lv_at hl 0 rfl) ?_
  refine lv_iload_n hx hb dL_law_1091 rfl (lv_at hl 3 rfl) ?_
  refine lv_iconst (v := 1) hx hb dL_law_1092 (by decide) ?_
  refine lv_iadd hx hb dL_law_1093 ?_
  refine l_ld (i := i) (j := 1) X hI (by omega) (nI_add i 1) dL_law_1094 ?_
  refine lv_aload_n hx hb dL_law_1095 rfl (lv_at hl 0 rfl) ?_
  refine lv_iload_n hx hb dL_law_1096 rfl (lv_at hl 3 rfl) ?_
  refine lv_iconst (v := 2) hx hb dL_law_1097 (by decide) ?_
  refine lv_iadd hx hb dL_law_1098 ?_
  refine l_ld (i := i) (j := 2) X hI (by omega) (nI_add i 2) dL_law_1099 ?_
  have hI : IW g (fun q => s.heap.size ≤ q) s.heap (wMX g (wC g ad cs') am ms) H locs := hI
  refine l_I (rest := [.int r]) X hI (c_X6_family l g (wC g ad cs') am N (xs (i + 1)) (xs (i + 2)) ms h2) (cwV 2 hts gL_law_X6_family rfl rfl rfl hv_X6_family ⟨Nat.le_of_ble_eq_true rfl, Nat.le_of_ble_eq_true rfl⟩) (w_recv X.1 hI (wC g ad cs').length wM_ob rfl) rfl hl.1 rfl (Nat.le_of_ble_eq_true rfl) dL_law_1100 (fun H locs hI => ?_)
  have hI : IW g (fun q => s.heap.size ≤ q) s.heap (wCX g (wM g am ms') ad cs') H locs := hI
  exact lv_icmp_eq (tgt := 1453) hx hb dL_law_1103 (by decide) (fun _ => kk H locs ls hI hl) (fun cz => absurd rfl cz)
set_option maxHeartbeats 4000000 in
set_option maxRecDepth 100000 in
theorem lc_28 {p : Program} {l : Launch} {e : Env} {s : State} {m : MethodId} {below : List Frame} {meth : Method} {c : Code} {H : Heap} {locs : List Loc} {b L i : Nat} {xs : Nat → Int32} {ls : Array Slot} {g : GP} {ad am : Nat → Nat} (N : Nat) {cs cs' ms ms' : St} {r : Int32} (X : LCx p s m c b L xs g) (hI : IW g (fun q => s.heap.size ≤ q) s.heap (wCX g (wM g am ms) ad cs) H locs) (hl : lv_has ls 4 [(0, .ref b), (1, .ref (ad 0)), (2, .ref (am 0)), (3, .int (nI i))]) (hi : i + 5 < L) (h1 : f_X5_families N cs (xs (i + 1)) = some (r, cs')) (h2 : f_X6_families N ms (xs (i + 1)) = some (r, ms'))
    (kk : ∀ (H : Heap) (locs : List Loc) (ls : Array Slot), IW g (fun q => s.heap.size ≤ q) s.heap (wCX g (wM g am ms') ad cs') H locs → lv_has ls 4 [(0, .ref b), (1, .ref (ad 0)), (2, .ref (am 0)), (3, .int (nI i))] → WL p l e s m b below meth c H locs (F0 m 1453 ls [])) : WL p l e s m b below meth c H locs (F0 m 1108 ls []) := by
  obtain ⟨hx, hb, hml, hown, hts⟩ := id X.1.1
  refine lv_aload_n hx hb dL_law_1108 rfl (lv_at hl 1 rfl) ?_
  refine lv_aload_n hx hb dL_law_1109 rfl (lv_at hl 0 rfl) ?_
  refine lv_iload_n hx hb dL_law_1110 rfl (lv_at hl 3 rfl) ?_
  refine lv_iconst (v := 1) hx hb dL_law_1111 (by decide) ?_
  refine lv_iadd hx hb dL_law_1112 ?_
  refine l_ld (i := i) (j := 1) X hI (by omega) (nI_add i 1) dL_law_1113 ?_
  refine l_I (rest := []) X hI (c_X5_families l g (wM g am ms) ad N (xs (i + 1)) cs h1) (cwV 1 hts gL_law_X5_families rfl rfl rfl hv_X5_families ⟨Nat.le_of_ble_eq_true rfl, Nat.le_of_ble_eq_true rfl⟩) (w_recv X.1 hI 0 at_C rfl) rfl hl.1 rfl (Nat.le_of_ble_eq_true rfl) dL_law_1114 (fun H locs hI => ?_)
  refine lv_aload_n hx hb dL_law_1117 rfl (lv_at hl 2 rfl) ?_
  refine lv_aload_n hx hb dL_law_1118 rfl (lv_at hl 0 rfl) ?_
  refine lv_iload_n hx hb dL_law_1119 rfl (lv_at hl 3 rfl) ?_
  refine lv_iconst (v := 1) hx hb dL_law_1120 (by decide) ?_
  refine lv_iadd hx hb dL_law_1121 ?_
  refine l_ld (i := i) (j := 1) X hI (by omega) (nI_add i 1) dL_law_1122 ?_
  have hI : IW g (fun q => s.heap.size ≤ q) s.heap (wMX g (wC g ad cs') am ms) H locs := hI
  refine l_I (rest := [.int r]) X hI (c_X6_families l g (wC g ad cs') am N (xs (i + 1)) ms h2) (cwV 1 hts gL_law_X6_families rfl rfl rfl hv_X6_families ⟨Nat.le_of_ble_eq_true rfl, Nat.le_of_ble_eq_true rfl⟩) (w_recv X.1 hI (wC g ad cs').length wM_ob rfl) rfl hl.1 rfl (Nat.le_of_ble_eq_true rfl) dL_law_1123 (fun H locs hI => ?_)
  have hI : IW g (fun q => s.heap.size ≤ q) s.heap (wCX g (wM g am ms') ad cs') H locs := hI
  exact lv_icmp_eq (tgt := 1453) hx hb dL_law_1126 (by decide) (fun _ => kk H locs ls hI hl) (fun cz => absurd rfl cz)
set_option maxHeartbeats 4000000 in
set_option maxRecDepth 100000 in
theorem lc_29 {p : Program} {l : Launch} {e : Env} {s : State} {m : MethodId} {below : List Frame} {meth : Method} {c : Code} {H : Heap} {locs : List Loc} {b L i : Nat} {xs : Nat → Int32} {ls : Array Slot} {g : GP} {ad am : Nat → Nat} (N : Nat) {cs cs' ms ms' : St} {r : Int32} (X : LCx p s m c b L xs g) (hI : IW g (fun q => s.heap.size ≤ q) s.heap (wCX g (wM g am ms) ad cs) H locs) (hl : lv_has ls 4 [(0, .ref b), (1, .ref (ad 0)), (2, .ref (am 0)), (3, .int (nI i))]) (hi : i + 5 < L) (h1 : f_X5_like N cs (xs (i + 1)) (xs (i + 2)) (bz (xs (i + 3))) = some (r, cs')) (h2 : f_X6_like N ms (xs (i + 1)) (xs (i + 2)) (bz (xs (i + 3))) = some (r, ms'))
    (kk : ∀ (H : Heap) (locs : List Loc) (ls : Array Slot), IW g (fun q => s.heap.size ≤ q) s.heap (wCX g (wM g am ms') ad cs') H locs → lv_has ls 4 [(0, .ref b), (1, .ref (ad 0)), (2, .ref (am 0)), (3, .int (nI i))] → WL p l e s m b below meth c H locs (F0 m 1453 ls [])) : WL p l e s m b below meth c H locs (F0 m 1131 ls []) := by
  obtain ⟨hx, hb, hml, hown, hts⟩ := id X.1.1
  by_cases cb3 : xs (i + 3) = 0
  · rw [bz_0 cb3] at h1 h2
    refine lv_aload_n hx hb dL_law_1131 rfl (lv_at hl 1 rfl) ?_
    refine lv_aload_n hx hb dL_law_1132 rfl (lv_at hl 0 rfl) ?_
    refine lv_iload_n hx hb dL_law_1133 rfl (lv_at hl 3 rfl) ?_
    refine lv_iconst (v := 1) hx hb dL_law_1134 (by decide) ?_
    refine lv_iadd hx hb dL_law_1135 ?_
    refine l_ld (i := i) (j := 1) X hI (by omega) (nI_add i 1) dL_law_1136 ?_
    refine lv_aload_n hx hb dL_law_1137 rfl (lv_at hl 0 rfl) ?_
    refine lv_iload_n hx hb dL_law_1138 rfl (lv_at hl 3 rfl) ?_
    refine lv_iconst (v := 2) hx hb dL_law_1139 (by decide) ?_
    refine lv_iadd hx hb dL_law_1140 ?_
    refine l_ld (i := i) (j := 2) X hI (by omega) (nI_add i 2) dL_law_1141 ?_
    refine lv_aload_n hx hb dL_law_1142 rfl (lv_at hl 0 rfl) ?_
    refine lv_iload_n hx hb dL_law_1143 rfl (lv_at hl 3 rfl) ?_
    refine lv_iconst (v := 3) hx hb dL_law_1144 (by decide) ?_
    refine lv_iadd hx hb dL_law_1145 ?_
    refine l_ld (i := i) (j := 3) X hI (by omega) (nI_add i 3) dL_law_1146 ?_
    refine lv_if_eq (tgt := 1154) hx hb dL_law_1147 (by decide) (fun _ => ?_) (fun cz => absurd cb3 cz)
    refine lv_iconst (v := 0) hx hb dL_law_1154 (by decide) ?_
    refine l_I (rest := []) X hI (c_X5_like l g (wM g am ms) ad N (xs (i + 1)) (xs (i + 2)) false cs h1) (cwV 3 hts gL_law_X5_like rfl rfl rfl hv_X5_like ⟨Nat.le_of_ble_eq_true rfl, Nat.le_of_ble_eq_true rfl⟩) (w_recv X.1 hI 0 at_C rfl) rfl hl.1 rfl (Nat.le_of_ble_eq_true rfl) dL_law_1155 (fun H locs hI => ?_)
    refine lv_aload_n hx hb dL_law_1158 rfl (lv_at hl 2 rfl) ?_
    refine lv_aload_n hx hb dL_law_1159 rfl (lv_at hl 0 rfl) ?_
    refine lv_iload_n hx hb dL_law_1160 rfl (lv_at hl 3 rfl) ?_
    refine lv_iconst (v := 1) hx hb dL_law_1161 (by decide) ?_
    refine lv_iadd hx hb dL_law_1162 ?_
    refine l_ld (i := i) (j := 1) X hI (by omega) (nI_add i 1) dL_law_1163 ?_
    refine lv_aload_n hx hb dL_law_1164 rfl (lv_at hl 0 rfl) ?_
    refine lv_iload_n hx hb dL_law_1165 rfl (lv_at hl 3 rfl) ?_
    refine lv_iconst (v := 2) hx hb dL_law_1166 (by decide) ?_
    refine lv_iadd hx hb dL_law_1167 ?_
    refine l_ld (i := i) (j := 2) X hI (by omega) (nI_add i 2) dL_law_1168 ?_
    refine lv_aload_n hx hb dL_law_1169 rfl (lv_at hl 0 rfl) ?_
    refine lv_iload_n hx hb dL_law_1170 rfl (lv_at hl 3 rfl) ?_
    refine lv_iconst (v := 3) hx hb dL_law_1171 (by decide) ?_
    refine lv_iadd hx hb dL_law_1172 ?_
    refine l_ld (i := i) (j := 3) X hI (by omega) (nI_add i 3) dL_law_1173 ?_
    refine lv_if_eq (tgt := 1181) hx hb dL_law_1174 (by decide) (fun _ => ?_) (fun cz => absurd cb3 cz)
    refine lv_iconst (v := 0) hx hb dL_law_1181 (by decide) ?_
    have hI : IW g (fun q => s.heap.size ≤ q) s.heap (wMX g (wC g ad cs') am ms) H locs := hI
    refine l_I (rest := [.int r]) X hI (c_X6_like l g (wC g ad cs') am N (xs (i + 1)) (xs (i + 2)) false ms h2) (cwV 3 hts gL_law_X6_like rfl rfl rfl hv_X6_like ⟨Nat.le_of_ble_eq_true rfl, Nat.le_of_ble_eq_true rfl⟩) (w_recv X.1 hI (wC g ad cs').length wM_ob rfl) rfl hl.1 rfl (Nat.le_of_ble_eq_true rfl) dL_law_1182 (fun H locs hI => ?_)
    have hI : IW g (fun q => s.heap.size ≤ q) s.heap (wCX g (wM g am ms') ad cs') H locs := hI
    exact lv_icmp_eq (tgt := 1453) hx hb dL_law_1185 (by decide) (fun _ => kk H locs ls hI hl) (fun cz => absurd rfl cz)
  · rw [bz_1 cb3] at h1 h2
    refine lv_aload_n hx hb dL_law_1131 rfl (lv_at hl 1 rfl) ?_
    refine lv_aload_n hx hb dL_law_1132 rfl (lv_at hl 0 rfl) ?_
    refine lv_iload_n hx hb dL_law_1133 rfl (lv_at hl 3 rfl) ?_
    refine lv_iconst (v := 1) hx hb dL_law_1134 (by decide) ?_
    refine lv_iadd hx hb dL_law_1135 ?_
    refine l_ld (i := i) (j := 1) X hI (by omega) (nI_add i 1) dL_law_1136 ?_
    refine lv_aload_n hx hb dL_law_1137 rfl (lv_at hl 0 rfl) ?_
    refine lv_iload_n hx hb dL_law_1138 rfl (lv_at hl 3 rfl) ?_
    refine lv_iconst (v := 2) hx hb dL_law_1139 (by decide) ?_
    refine lv_iadd hx hb dL_law_1140 ?_
    refine l_ld (i := i) (j := 2) X hI (by omega) (nI_add i 2) dL_law_1141 ?_
    refine lv_aload_n hx hb dL_law_1142 rfl (lv_at hl 0 rfl) ?_
    refine lv_iload_n hx hb dL_law_1143 rfl (lv_at hl 3 rfl) ?_
    refine lv_iconst (v := 3) hx hb dL_law_1144 (by decide) ?_
    refine lv_iadd hx hb dL_law_1145 ?_
    refine l_ld (i := i) (j := 3) X hI (by omega) (nI_add i 3) dL_law_1146 ?_
    refine lv_if_eq (tgt := 1154) hx hb dL_law_1147 (by decide) (fun cz => absurd cz cb3) (fun _ => ?_)
    refine lv_iconst (v := 1) hx hb dL_law_1150 (by decide) ?_
    refine lv_goto (tgt := 1155) hx hb dL_law_1151 (by decide) ?_
    refine l_I (rest := []) X hI (c_X5_like l g (wM g am ms) ad N (xs (i + 1)) (xs (i + 2)) true cs h1) (cwV 3 hts gL_law_X5_like rfl rfl rfl hv_X5_like ⟨Nat.le_of_ble_eq_true rfl, Nat.le_of_ble_eq_true rfl⟩) (w_recv X.1 hI 0 at_C rfl) rfl hl.1 rfl (Nat.le_of_ble_eq_true rfl) dL_law_1155 (fun H locs hI => ?_)
    refine lv_aload_n hx hb dL_law_1158 rfl (lv_at hl 2 rfl) ?_
    refine lv_aload_n hx hb dL_law_1159 rfl (lv_at hl 0 rfl) ?_
    refine lv_iload_n hx hb dL_law_1160 rfl (lv_at hl 3 rfl) ?_
    refine lv_iconst (v := 1) hx hb dL_law_1161 (by decide) ?_
    refine lv_iadd hx hb dL_law_1162 ?_
    refine l_ld (i := i) (j := 1) X hI (by omega) (nI_add i 1) dL_law_1163 ?_
    refine lv_aload_n hx hb dL_law_1164 rfl (lv_at hl 0 rfl) ?_
    refine lv_iload_n hx hb dL_law_1165 rfl (lv_at hl 3 rfl) ?_
    refine lv_iconst (v := 2) hx hb dL_law_1166 (by decide) ?_
    refine lv_iadd hx hb dL_law_1167 ?_
    refine l_ld (i := i) (j := 2) X hI (by omega) (nI_add i 2) dL_law_1168 ?_
    refine lv_aload_n hx hb dL_law_1169 rfl (lv_at hl 0 rfl) ?_
    refine lv_iload_n hx hb dL_law_1170 rfl (lv_at hl 3 rfl) ?_
    refine lv_iconst (v := 3) hx hb dL_law_1171 (by decide) ?_
    refine lv_iadd hx hb dL_law_1172 ?_
    refine l_ld (i := i) (j := 3) X hI (by omega) (nI_add i 3) dL_law_1173 ?_
    refine lv_if_eq (tgt := 1181) hx hb dL_law_1174 (by decide) (fun cz => absurd cz cb3) (fun _ => ?_)
    refine lv_iconst (v := 1) hx hb dL_law_1177 (by decide) ?_
    refine lv_goto (tgt := 1182) hx hb dL_law_1178 (by decide) ?_
    have hI : IW g (fun q => s.heap.size ≤ q) s.heap (wMX g (wC g ad cs') am ms) H locs := hI
    refine l_I (rest := [.int r]) X hI (c_X6_like l g (wC g ad cs') am N (xs (i + 1)) (xs (i + 2)) true ms h2) (cwV 3 hts gL_law_X6_like rfl rfl rfl hv_X6_like ⟨Nat.le_of_ble_eq_true rfl, Nat.le_of_ble_eq_true rfl⟩) (w_recv X.1 hI (wC g ad cs').length wM_ob rfl) rfl hl.1 rfl (Nat.le_of_ble_eq_true rfl) dL_law_1182 (fun H locs hI => ?_)
    have hI : IW g (fun q => s.heap.size ≤ q) s.heap (wCX g (wM g am ms') ad cs') H locs := hI
    exact lv_icmp_eq (tgt := 1453) hx hb dL_law_1185 (by decide) (fun _ => kk H locs ls hI hl) (fun cz => absurd rfl cz)
set_option maxHeartbeats 4000000 in
set_option maxRecDepth 100000 in
theorem lc_30 {p : Program} {l : Launch} {e : Env} {s : State} {m : MethodId} {below : List Frame} {meth : Method} {c : Code} {H : Heap} {locs : List Loc} {b L i : Nat} {xs : Nat → Int32} {ls : Array Slot} {g : GP} {ad am : Nat → Nat} (N : Nat) {cs cs' ms ms' : St} {r : Int32} (X : LCx p s m c b L xs g) (hI : IW g (fun q => s.heap.size ≤ q) s.heap (wCX g (wM g am ms) ad cs) H locs) (hl : lv_has ls 4 [(0, .ref b), (1, .ref (ad 0)), (2, .ref (am 0)), (3, .int (nI i))]) (hi : i + 5 < L) (h1 : f_X5_nearest N cs (xs (i + 1)) = some (r, cs')) (h2 : f_X6_nearest N ms (xs (i + 1)) = some (r, ms'))
    (kk : ∀ (H : Heap) (locs : List Loc) (ls : Array Slot), IW g (fun q => s.heap.size ≤ q) s.heap (wCX g (wM g am ms') ad cs') H locs → lv_has ls 4 [(0, .ref b), (1, .ref (ad 0)), (2, .ref (am 0)), (3, .int (nI i))] → WL p l e s m b below meth c H locs (F0 m 1453 ls [])) : WL p l e s m b below meth c H locs (F0 m 1190 ls []) := by
  obtain ⟨hx, hb, hml, hown, hts⟩ := id X.1.1
  refine lv_aload_n hx hb dL_law_1190 rfl (lv_at hl 1 rfl) ?_
  refine lv_aload_n hx hb dL_law_1191 rfl (lv_at hl 0 rfl) ?_
  refine lv_iload_n hx hb dL_law_1192 rfl (lv_at hl 3 rfl) ?_
  refine lv_iconst (v := 1) hx hb dL_law_1193 (by decide) ?_
  refine lv_iadd hx hb dL_law_1194 ?_
  refine l_ld (i := i) (j := 1) X hI (by omega) (nI_add i 1) dL_law_1195 ?_
  refine l_I (rest := []) X hI (c_X5_nearest l g (wM g am ms) ad N (xs (i + 1)) cs h1) (cwV 1 hts gL_law_X5_nearest rfl rfl rfl hv_X5_nearest ⟨Nat.le_of_ble_eq_true rfl, Nat.le_of_ble_eq_true rfl⟩) (w_recv X.1 hI 0 at_C rfl) rfl hl.1 rfl (Nat.le_of_ble_eq_true rfl) dL_law_1196 (fun H locs hI => ?_)
  refine lv_aload_n hx hb dL_law_1199 rfl (lv_at hl 2 rfl) ?_
  refine lv_aload_n hx hb dL_law_1200 rfl (lv_at hl 0 rfl) ?_
  refine lv_iload_n hx hb dL_law_1201 rfl (lv_at hl 3 rfl) ?_
  refine lv_iconst (v := 1) hx hb dL_law_1202 (by decide) ?_
  refine lv_iadd hx hb dL_law_1203 ?_
  refine l_ld (i := i) (j := 1) X hI (by omega) (nI_add i 1) dL_law_1204 ?_
  have hI : IW g (fun q => s.heap.size ≤ q) s.heap (wMX g (wC g ad cs') am ms) H locs := hI
  refine l_I (rest := [.int r]) X hI (c_X6_nearest l g (wC g ad cs') am N (xs (i + 1)) ms h2) (cwV 1 hts gL_law_X6_nearest rfl rfl rfl hv_X6_nearest ⟨Nat.le_of_ble_eq_true rfl, Nat.le_of_ble_eq_true rfl⟩) (w_recv X.1 hI (wC g ad cs').length wM_ob rfl) rfl hl.1 rfl (Nat.le_of_ble_eq_true rfl) dL_law_1205 (fun H locs hI => ?_)
  have hI : IW g (fun q => s.heap.size ≤ q) s.heap (wCX g (wM g am ms') ad cs') H locs := hI
  exact lv_icmp_eq (tgt := 1453) hx hb dL_law_1208 (by decide) (fun _ => kk H locs ls hI hl) (fun cz => absurd rfl cz)
set_option maxHeartbeats 4000000 in
set_option maxRecDepth 100000 in
theorem lc_31 {p : Program} {l : Launch} {e : Env} {s : State} {m : MethodId} {below : List Frame} {meth : Method} {c : Code} {H : Heap} {locs : List Loc} {b L i : Nat} {xs : Nat → Int32} {ls : Array Slot} {g : GP} {ad am : Nat → Nat} (N : Nat) {cs cs' ms ms' : St} {r : Int32} (X : LCx p s m c b L xs g) (hI : IW g (fun q => s.heap.size ≤ q) s.heap (wCX g (wM g am ms) ad cs) H locs) (hl : lv_has ls 4 [(0, .ref b), (1, .ref (ad 0)), (2, .ref (am 0)), (3, .int (nI i))]) (hi : i + 5 < L) (h1 : f_X5_mark cs (xs (i + 1)) (xs (i + 2)) (bz (xs (i + 3))) = some (r, cs')) (h2 : f_X6_mark ms (xs (i + 1)) (xs (i + 2)) (bz (xs (i + 3))) = some (r, ms'))
    (kk : ∀ (H : Heap) (locs : List Loc) (ls : Array Slot), IW g (fun q => s.heap.size ≤ q) s.heap (wCX g (wM g am ms') ad cs') H locs → lv_has ls 4 [(0, .ref b), (1, .ref (ad 0)), (2, .ref (am 0)), (3, .int (nI i))] → WL p l e s m b below meth c H locs (F0 m 1453 ls [])) : WL p l e s m b below meth c H locs (F0 m 1213 ls []) := by
  obtain ⟨hx, hb, hml, hown, hts⟩ := id X.1.1
  by_cases cb3 : xs (i + 3) = 0
  · rw [bz_0 cb3] at h1 h2
    refine lv_aload_n hx hb dL_law_1213 rfl (lv_at hl 1 rfl) ?_
    refine lv_aload_n hx hb dL_law_1214 rfl (lv_at hl 0 rfl) ?_
    refine lv_iload_n hx hb dL_law_1215 rfl (lv_at hl 3 rfl) ?_
    refine lv_iconst (v := 1) hx hb dL_law_1216 (by decide) ?_
    refine lv_iadd hx hb dL_law_1217 ?_
    refine l_ld (i := i) (j := 1) X hI (by omega) (nI_add i 1) dL_law_1218 ?_
    refine lv_aload_n hx hb dL_law_1219 rfl (lv_at hl 0 rfl) ?_
    refine lv_iload_n hx hb dL_law_1220 rfl (lv_at hl 3 rfl) ?_
    refine lv_iconst (v := 2) hx hb dL_law_1221 (by decide) ?_
    refine lv_iadd hx hb dL_law_1222 ?_
    refine l_ld (i := i) (j := 2) X hI (by omega) (nI_add i 2) dL_law_1223 ?_
    refine lv_aload_n hx hb dL_law_1224 rfl (lv_at hl 0 rfl) ?_
    refine lv_iload_n hx hb dL_law_1225 rfl (lv_at hl 3 rfl) ?_
    refine lv_iconst (v := 3) hx hb dL_law_1226 (by decide) ?_
    refine lv_iadd hx hb dL_law_1227 ?_
    refine l_ld (i := i) (j := 3) X hI (by omega) (nI_add i 3) dL_law_1228 ?_
    refine lv_if_eq (tgt := 1236) hx hb dL_law_1229 (by decide) (fun _ => ?_) (fun cz => absurd cb3 cz)
    refine lv_iconst (v := 0) hx hb dL_law_1236 (by decide) ?_
    refine l_I (rest := []) X hI (c_X5_mark l g (wM g am ms) ad (xs (i + 1)) (xs (i + 2)) false cs h1) (cwV 3 hts gL_law_X5_mark rfl rfl rfl hv_X5_mark ⟨Nat.le_of_ble_eq_true rfl, Nat.le_of_ble_eq_true rfl⟩) (w_recv X.1 hI 0 at_C rfl) rfl hl.1 rfl (Nat.le_of_ble_eq_true rfl) dL_law_1237 (fun H locs hI => ?_)
    refine lv_aload_n hx hb dL_law_1240 rfl (lv_at hl 2 rfl) ?_
    refine lv_aload_n hx hb dL_law_1241 rfl (lv_at hl 0 rfl) ?_
    refine lv_iload_n hx hb dL_law_1242 rfl (lv_at hl 3 rfl) ?_
    refine lv_iconst (v := 1) hx hb dL_law_1243 (by decide) ?_
    refine lv_iadd hx hb dL_law_1244 ?_
    refine l_ld (i := i) (j := 1) X hI (by omega) (nI_add i 1) dL_law_1245 ?_
    refine lv_aload_n hx hb dL_law_1246 rfl (lv_at hl 0 rfl) ?_
    refine lv_iload_n hx hb dL_law_1247 rfl (lv_at hl 3 rfl) ?_
    refine lv_iconst (v := 2) hx hb dL_law_1248 (by decide) ?_
    refine lv_iadd hx hb dL_law_1249 ?_
    refine l_ld (i := i) (j := 2) X hI (by omega) (nI_add i 2) dL_law_1250 ?_
    refine lv_aload_n hx hb dL_law_1251 rfl (lv_at hl 0 rfl) ?_
    refine lv_iload_n hx hb dL_law_1252 rfl (lv_at hl 3 rfl) ?_
    refine lv_iconst (v := 3) hx hb dL_law_1253 (by decide) ?_
    refine lv_iadd hx hb dL_law_1254 ?_
    refine l_ld (i := i) (j := 3) X hI (by omega) (nI_add i 3) dL_law_1255 ?_
    refine lv_if_eq (tgt := 1263) hx hb dL_law_1256 (by decide) (fun _ => ?_) (fun cz => absurd cb3 cz)
    refine lv_iconst (v := 0) hx hb dL_law_1263 (by decide) ?_
    have hI : IW g (fun q => s.heap.size ≤ q) s.heap (wMX g (wC g ad cs') am ms) H locs := hI
    refine l_I (rest := [.int r]) X hI (c_X6_mark l g (wC g ad cs') am (xs (i + 1)) (xs (i + 2)) false ms h2) (cwV 3 hts gL_law_X6_mark rfl rfl rfl hv_X6_mark ⟨Nat.le_of_ble_eq_true rfl, Nat.le_of_ble_eq_true rfl⟩) (w_recv X.1 hI (wC g ad cs').length wM_ob rfl) rfl hl.1 rfl (Nat.le_of_ble_eq_true rfl) dL_law_1264 (fun H locs hI => ?_)
    have hI : IW g (fun q => s.heap.size ≤ q) s.heap (wCX g (wM g am ms') ad cs') H locs := hI
    exact lv_icmp_eq (tgt := 1453) hx hb dL_law_1267 (by decide) (fun _ => kk H locs ls hI hl) (fun cz => absurd rfl cz)
  · rw [bz_1 cb3] at h1 h2
    refine lv_aload_n hx hb dL_law_1213 rfl (lv_at hl 1 rfl) ?_
    refine lv_aload_n hx hb dL_law_1214 rfl (lv_at hl 0 rfl) ?_
    refine lv_iload_n hx hb dL_law_1215 rfl (lv_at hl 3 rfl) ?_
    refine lv_iconst (v := 1) hx hb dL_law_1216 (by decide) ?_
    refine lv_iadd hx hb dL_law_1217 ?_
    refine l_ld (i := i) (j := 1) X hI (by omega) (nI_add i 1) dL_law_1218 ?_
    refine lv_aload_n hx hb dL_law_1219 rfl (lv_at hl 0 rfl) ?_
    refine lv_iload_n hx hb dL_law_1220 rfl (lv_at hl 3 rfl) ?_
    refine lv_iconst (v := 2) hx hb dL_law_1221 (by decide) ?_
    refine lv_iadd hx hb dL_law_1222 ?_
    refine l_ld (i := i) (j := 2) X hI (by omega) (nI_add i 2) dL_law_1223 ?_
    refine lv_aload_n hx hb dL_law_1224 rfl (lv_at hl 0 rfl) ?_
    refine lv_iload_n hx hb dL_law_1225 rfl (lv_at hl 3 rfl) ?_
    refine lv_iconst (v := 3) hx hb dL_law_1226 (by decide) ?_
    refine lv_iadd hx hb dL_law_1227 ?_
    refine l_ld (i := i) (j := 3) X hI (by omega) (nI_add i 3) dL_law_1228 ?_
    refine lv_if_eq (tgt := 1236) hx hb dL_law_1229 (by decide) (fun cz => absurd cz cb3) (fun _ => ?_)
    refine lv_iconst (v := 1) hx hb dL_law_1232 (by decide) ?_
    refine lv_goto (tgt := 1237) hx hb dL_law_1233 (by decide) ?_
    refine l_I (rest := []) X hI (c_X5_mark l g (wM g am ms) ad (xs (i + 1)) (xs (i + 2)) true cs h1) (cwV 3 hts gL_law_X5_mark rfl rfl rfl hv_X5_mark ⟨Nat.le_of_ble_eq_true rfl, Nat.le_of_ble_eq_true rfl⟩) (w_recv X.1 hI 0 at_C rfl) rfl hl.1 rfl (Nat.le_of_ble_eq_true rfl) dL_law_1237 (fun H locs hI => ?_)
    refine lv_aload_n hx hb dL_law_1240 rfl (lv_at hl 2 rfl) ?_
    refine lv_aload_n hx hb dL_law_1241 rfl (lv_at hl 0 rfl) ?_
    refine lv_iload_n hx hb dL_law_1242 rfl (lv_at hl 3 rfl) ?_
    refine lv_iconst (v := 1) hx hb dL_law_1243 (by decide) ?_
    refine lv_iadd hx hb dL_law_1244 ?_
    refine l_ld (i := i) (j := 1) X hI (by omega) (nI_add i 1) dL_law_1245 ?_
    refine lv_aload_n hx hb dL_law_1246 rfl (lv_at hl 0 rfl) ?_
    refine lv_iload_n hx hb dL_law_1247 rfl (lv_at hl 3 rfl) ?_
    refine lv_iconst (v := 2) hx hb dL_law_1248 (by decide) ?_
    refine lv_iadd hx hb dL_law_1249 ?_
    refine l_ld (i := i) (j := 2) X hI (by omega) (nI_add i 2) dL_law_1250 ?_
    refine lv_aload_n hx hb dL_law_1251 rfl (lv_at hl 0 rfl) ?_
    refine lv_iload_n hx hb dL_law_1252 rfl (lv_at hl 3 rfl) ?_
    refine lv_iconst (v := 3) hx hb dL_law_1253 (by decide) ?_
    refine lv_iadd hx hb dL_law_1254 ?_
    refine l_ld (i := i) (j := 3) X hI (by omega) (nI_add i 3) dL_law_1255 ?_
    refine lv_if_eq (tgt := 1263) hx hb dL_law_1256 (by decide) (fun cz => absurd cz cb3) (fun _ => ?_)
    refine lv_iconst (v := 1) hx hb dL_law_1259 (by decide) ?_
    refine lv_goto (tgt := 1264) hx hb dL_law_1260 (by decide) ?_
    have hI : IW g (fun q => s.heap.size ≤ q) s.heap (wMX g (wC g ad cs') am ms) H locs := hI
    refine l_I (rest := [.int r]) X hI (c_X6_mark l g (wC g ad cs') am (xs (i + 1)) (xs (i + 2)) true ms h2) (cwV 3 hts gL_law_X6_mark rfl rfl rfl hv_X6_mark ⟨Nat.le_of_ble_eq_true rfl, Nat.le_of_ble_eq_true rfl⟩) (w_recv X.1 hI (wC g ad cs').length wM_ob rfl) rfl hl.1 rfl (Nat.le_of_ble_eq_true rfl) dL_law_1264 (fun H locs hI => ?_)
    have hI : IW g (fun q => s.heap.size ≤ q) s.heap (wCX g (wM g am ms') ad cs') H locs := hI
    exact lv_icmp_eq (tgt := 1453) hx hb dL_law_1267 (by decide) (fun _ => kk H locs ls hI hl) (fun cz => absurd rfl cz)
set_option maxHeartbeats 4000000 in
set_option maxRecDepth 100000 in
theorem lc_32 {p : Program} {l : Launch} {e : Env} {s : State} {m : MethodId} {below : List Frame} {meth : Method} {c : Code} {H : Heap} {locs : List Loc} {b L i : Nat} {xs : Nat → Int32} {ls : Array Slot} {g : GP} {ad am : Nat → Nat} (N : Nat) {cs cs' ms ms' : St} {r : Int32} (X : LCx p s m c b L xs g) (hI : IW g (fun q => s.heap.size ≤ q) s.heap (wCX g (wM g am ms) ad cs) H locs) (hl : lv_has ls 4 [(0, .ref b), (1, .ref (ad 0)), (2, .ref (am 0)), (3, .int (nI i))]) (hi : i + 5 < L) (h1 : f_X5_weigh cs (xs (i + 1)) (bz (xs (i + 2))) (xs (i + 3)) = some (r, cs')) (h2 : f_X6_weigh ms (xs (i + 1)) (bz (xs (i + 2))) (xs (i + 3)) = some (r, ms'))
    (kk : ∀ (H : Heap) (locs : List Loc) (ls : Array Slot), IW g (fun q => s.heap.size ≤ q) s.heap (wCX g (wM g am ms') ad cs') H locs → lv_has ls 4 [(0, .ref b), (1, .ref (ad 0)), (2, .ref (am 0)), (3, .int (nI i))] → WL p l e s m b below meth c H locs (F0 m 1453 ls [])) : WL p l e s m b below meth c H locs (F0 m 1272 ls []) := by
  obtain ⟨hx, hb, hml, hown, hts⟩ := id X.1.1
  by_cases cb2 : xs (i + 2) = 0
  · rw [bz_0 cb2] at h1 h2
    refine lv_aload_n hx hb dL_law_1272 rfl (lv_at hl 1 rfl) ?_
    refine lv_aload_n hx hb dL_law_1273 rfl (lv_at hl 0 rfl) ?_
    refine lv_iload_n hx hb dL_law_1274 rfl (lv_at hl 3 rfl) ?_
    refine lv_iconst (v := 1) hx hb dL_law_1275 (by decide) ?_
    refine lv_iadd hx hb dL_law_1276 ?_
    refine l_ld (i := i) (j := 1) X hI (by omega) (nI_add i 1) dL_law_1277 ?_
    refine lv_aload_n hx hb dL_law_1278 rfl (lv_at hl 0 rfl) ?_
    refine lv_iload_n hx hb dL_law_1279 rfl (lv_at hl 3 rfl) ?_
    refine lv_iconst (v := 2) hx hb dL_law_1280 (by decide) ?_
    refine lv_iadd hx hb dL_law_1281 ?_
    refine l_ld (i := i) (j := 2) X hI (by omega) (nI_add i 2) dL_law_1282 ?_
    refine lv_if_eq (tgt := 1290) hx hb dL_law_1283 (by decide) (fun _ => ?_) (fun cz => absurd cb2 cz)
    refine lv_iconst (v := 0) hx hb dL_law_1290 (by decide) ?_
    refine lv_aload_n hx hb dL_law_1291 rfl (lv_at hl 0 rfl) ?_
    refine lv_iload_n hx hb dL_law_1292 rfl (lv_at hl 3 rfl) ?_
    refine lv_iconst (v := 3) hx hb dL_law_1293 (by decide) ?_
    refine lv_iadd hx hb dL_law_1294 ?_
    refine l_ld (i := i) (j := 3) X hI (by omega) (nI_add i 3) dL_law_1295 ?_
    refine l_I (rest := []) X hI (c_X5_weigh l g (wM g am ms) ad (xs (i + 1)) false (xs (i + 3)) cs h1) (cwV 3 hts gL_law_X5_weigh rfl rfl rfl hv_X5_weigh ⟨Nat.le_of_ble_eq_true rfl, Nat.le_of_ble_eq_true rfl⟩) (w_recv X.1 hI 0 at_C rfl) rfl hl.1 rfl (Nat.le_of_ble_eq_true rfl) dL_law_1296 (fun H locs hI => ?_)
    refine lv_aload_n hx hb dL_law_1299 rfl (lv_at hl 2 rfl) ?_
    refine lv_aload_n hx hb dL_law_1300 rfl (lv_at hl 0 rfl) ?_
    refine lv_iload_n hx hb dL_law_1301 rfl (lv_at hl 3 rfl) ?_
    refine lv_iconst (v := 1) hx hb dL_law_1302 (by decide) ?_
    refine lv_iadd hx hb dL_law_1303 ?_
    refine l_ld (i := i) (j := 1) X hI (by omega) (nI_add i 1) dL_law_1304 ?_
    refine lv_aload_n hx hb dL_law_1305 rfl (lv_at hl 0 rfl) ?_
    refine lv_iload_n hx hb dL_law_1306 rfl (lv_at hl 3 rfl) ?_
    refine lv_iconst (v := 2) hx hb dL_law_1307 (by decide) ?_
    refine lv_iadd hx hb dL_law_1308 ?_
    refine l_ld (i := i) (j := 2) X hI (by omega) (nI_add i 2) dL_law_1309 ?_
    refine lv_if_eq (tgt := 1317) hx hb dL_law_1310 (by decide) (fun _ => ?_) (fun cz => absurd cb2 cz)
    refine lv_iconst (v := 0) hx hb dL_law_1317 (by decide) ?_
    refine lv_aload_n hx hb dL_law_1318 rfl (lv_at hl 0 rfl) ?_
    refine lv_iload_n hx hb dL_law_1319 rfl (lv_at hl 3 rfl) ?_
    refine lv_iconst (v := 3) hx hb dL_law_1320 (by decide) ?_
    refine lv_iadd hx hb dL_law_1321 ?_
    refine l_ld (i := i) (j := 3) X hI (by omega) (nI_add i 3) dL_law_1322 ?_
    have hI : IW g (fun q => s.heap.size ≤ q) s.heap (wMX g (wC g ad cs') am ms) H locs := hI
    refine l_I (rest := [.int r]) X hI (c_X6_weigh l g (wC g ad cs') am (xs (i + 1)) false (xs (i + 3)) ms h2) (cwV 3 hts gL_law_X6_weigh rfl rfl rfl hv_X6_weigh ⟨Nat.le_of_ble_eq_true rfl, Nat.le_of_ble_eq_true rfl⟩) (w_recv X.1 hI (wC g ad cs').length wM_ob rfl) rfl hl.1 rfl (Nat.le_of_ble_eq_true rfl) dL_law_1323 (fun H locs hI => ?_)
    have hI : IW g (fun q => s.heap.size ≤ q) s.heap (wCX g (wM g am ms') ad cs') H locs := hI
    exact lv_icmp_eq (tgt := 1453) hx hb dL_law_1326 (by decide) (fun _ => kk H locs ls hI hl) (fun cz => absurd rfl cz)
  · rw [bz_1 cb2] at h1 h2
    refine lv_aload_n hx hb dL_law_1272 rfl (lv_at hl 1 rfl) ?_
    refine lv_aload_n hx hb dL_law_1273 rfl (lv_at hl 0 rfl) ?_
    refine lv_iload_n hx hb dL_law_1274 rfl (lv_at hl 3 rfl) ?_
    refine lv_iconst (v := 1) hx hb dL_law_1275 (by decide) ?_
    refine lv_iadd hx hb dL_law_1276 ?_
    refine l_ld (i := i) (j := 1) X hI (by omega) (nI_add i 1) dL_law_1277 ?_
    refine lv_aload_n hx hb dL_law_1278 rfl (lv_at hl 0 rfl) ?_
    refine lv_iload_n hx hb dL_law_1279 rfl (lv_at hl 3 rfl) ?_
    refine lv_iconst (v := 2) hx hb dL_law_1280 (by decide) ?_
    refine lv_iadd hx hb dL_law_1281 ?_
    refine l_ld (i := i) (j := 2) X hI (by omega) (nI_add i 2) dL_law_1282 ?_
    refine lv_if_eq (tgt := 1290) hx hb dL_law_1283 (by decide) (fun cz => absurd cz cb2) (fun _ => ?_)
    refine lv_iconst (v := 1) hx hb dL_law_1286 (by decide) ?_
    refine lv_goto (tgt := 1291) hx hb dL_law_1287 (by decide) ?_
    refine lv_aload_n hx hb dL_law_1291 rfl (lv_at hl 0 rfl) ?_
    refine lv_iload_n hx hb dL_law_1292 rfl (lv_at hl 3 rfl) ?_
    refine lv_iconst (v := 3) hx hb dL_law_1293 (by decide) ?_
    refine lv_iadd hx hb dL_law_1294 ?_
    refine l_ld (i := i) (j := 3) X hI (by omega) (nI_add i 3) dL_law_1295 ?_
    refine l_I (rest := []) X hI (c_X5_weigh l g (wM g am ms) ad (xs (i + 1)) true (xs (i + 3)) cs h1) (cwV 3 hts gL_law_X5_weigh rfl rfl rfl hv_X5_weigh ⟨Nat.le_of_ble_eq_true rfl, Nat.le_of_ble_eq_true rfl⟩) (w_recv X.1 hI 0 at_C rfl) rfl hl.1 rfl (Nat.le_of_ble_eq_true rfl) dL_law_1296 (fun H locs hI => ?_)
    refine lv_aload_n hx hb dL_law_1299 rfl (lv_at hl 2 rfl) ?_
    refine lv_aload_n hx hb dL_law_1300 rfl (lv_at hl 0 rfl) ?_
    refine lv_iload_n hx hb dL_law_1301 rfl (lv_at hl 3 rfl) ?_
    refine lv_iconst (v := 1) hx hb dL_law_1302 (by decide) ?_
    refine lv_iadd hx hb dL_law_1303 ?_
    refine l_ld (i := i) (j := 1) X hI (by omega) (nI_add i 1) dL_law_1304 ?_
    refine lv_aload_n hx hb dL_law_1305 rfl (lv_at hl 0 rfl) ?_
    refine lv_iload_n hx hb dL_law_1306 rfl (lv_at hl 3 rfl) ?_
    refine lv_iconst (v := 2) hx hb dL_law_1307 (by decide) ?_
    refine lv_iadd hx hb dL_law_1308 ?_
    refine l_ld (i := i) (j := 2) X hI (by omega) (nI_add i 2) dL_law_1309 ?_
    refine lv_if_eq (tgt := 1317) hx hb dL_law_1310 (by decide) (fun cz => absurd cz cb2) (fun _ => ?_)
    refine lv_iconst (v := 1) hx hb dL_law_1313 (by decide) ?_
    refine lv_goto (tgt := 1318) hx hb dL_law_1314 (by decide) ?_
    refine lv_aload_n hx hb dL_law_1318 rfl (lv_at hl 0 rfl) ?_
    refine lv_iload_n hx hb dL_law_1319 rfl (lv_at hl 3 rfl) ?_
    refine lv_iconst (v := 3) hx hb dL_law_1320 (by decide) ?_
    refine lv_iadd hx hb dL_law_1321 ?_
    refine l_ld (i := i) (j := 3) X hI (by omega) (nI_add i 3) dL_law_1322 ?_
    have hI : IW g (fun q => s.heap.size ≤ q) s.heap (wMX g (wC g ad cs') am ms) H locs := hI
    refine l_I (rest := [.int r]) X hI (c_X6_weigh l g (wC g ad cs') am (xs (i + 1)) true (xs (i + 3)) ms h2) (cwV 3 hts gL_law_X6_weigh rfl rfl rfl hv_X6_weigh ⟨Nat.le_of_ble_eq_true rfl, Nat.le_of_ble_eq_true rfl⟩) (w_recv X.1 hI (wC g ad cs').length wM_ob rfl) rfl hl.1 rfl (Nat.le_of_ble_eq_true rfl) dL_law_1323 (fun H locs hI => ?_)
    have hI : IW g (fun q => s.heap.size ≤ q) s.heap (wCX g (wM g am ms') ad cs') H locs := hI
    exact lv_icmp_eq (tgt := 1453) hx hb dL_law_1326 (by decide) (fun _ => kk H locs ls hI hl) (fun cz => absurd rfl cz)
set_option maxHeartbeats 4000000 in
set_option maxRecDepth 100000 in
theorem lc_33 {p : Program} {l : Launch} {e : Env} {s : State} {m : MethodId} {below : List Frame} {meth : Method} {c : Code} {H : Heap} {locs : List Loc} {b L i : Nat} {xs : Nat → Int32} {ls : Array Slot} {g : GP} {ad am : Nat → Nat} (N : Nat) {cs cs' ms ms' : St} {r : Int64} (X : LCx p s m c b L xs g) (hI : IW g (fun q => s.heap.size ≤ q) s.heap (wCX g (wM g am ms) ad cs) H locs) (hl : lv_has ls 4 [(0, .ref b), (1, .ref (ad 0)), (2, .ref (am 0)), (3, .int (nI i))]) (hi : i + 5 < L) (h1 : f_X5_share N cs (xs (i + 1)) (bz (xs (i + 2))) = some (r, cs')) (h2 : f_X6_share N ms (xs (i + 1)) (bz (xs (i + 2))) = some (r, ms'))
    (kk : ∀ (H : Heap) (locs : List Loc) (ls : Array Slot), IW g (fun q => s.heap.size ≤ q) s.heap (wCX g (wM g am ms') ad cs') H locs → lv_has ls 4 [(0, .ref b), (1, .ref (ad 0)), (2, .ref (am 0)), (3, .int (nI i))] → WL p l e s m b below meth c H locs (F0 m 1453 ls [])) : WL p l e s m b below meth c H locs (F0 m 1331 ls []) := by
  obtain ⟨hx, hb, hml, hown, hts⟩ := id X.1.1
  by_cases cb2 : xs (i + 2) = 0
  · rw [bz_0 cb2] at h1 h2
    refine lv_aload_n hx hb dL_law_1331 rfl (lv_at hl 1 rfl) ?_
    refine lv_aload_n hx hb dL_law_1332 rfl (lv_at hl 0 rfl) ?_
    refine lv_iload_n hx hb dL_law_1333 rfl (lv_at hl 3 rfl) ?_
    refine lv_iconst (v := 1) hx hb dL_law_1334 (by decide) ?_
    refine lv_iadd hx hb dL_law_1335 ?_
    refine l_ld (i := i) (j := 1) X hI (by omega) (nI_add i 1) dL_law_1336 ?_
    refine lv_aload_n hx hb dL_law_1337 rfl (lv_at hl 0 rfl) ?_
    refine lv_iload_n hx hb dL_law_1338 rfl (lv_at hl 3 rfl) ?_
    refine lv_iconst (v := 2) hx hb dL_law_1339 (by decide) ?_
    refine lv_iadd hx hb dL_law_1340 ?_
    refine l_ld (i := i) (j := 2) X hI (by omega) (nI_add i 2) dL_law_1341 ?_
    refine lv_if_eq (tgt := 1349) hx hb dL_law_1342 (by decide) (fun _ => ?_) (fun cz => absurd cb2 cz)
    refine lv_iconst (v := 0) hx hb dL_law_1349 (by decide) ?_
    refine l_L (rest := []) X hI (c_X5_share l g (wM g am ms) ad N (xs (i + 1)) false cs h1) (cwV 2 hts gL_law_X5_share rfl rfl rfl hv_X5_share ⟨Nat.le_of_ble_eq_true rfl, Nat.le_of_ble_eq_true rfl⟩) (w_recv X.1 hI 0 at_C rfl) rfl hl.1 rfl (Nat.le_of_ble_eq_true rfl) dL_law_1350 (fun H locs hI => ?_)
    refine lv_aload_n hx hb dL_law_1353 rfl (lv_at hl 2 rfl) ?_
    refine lv_aload_n hx hb dL_law_1354 rfl (lv_at hl 0 rfl) ?_
    refine lv_iload_n hx hb dL_law_1355 rfl (lv_at hl 3 rfl) ?_
    refine lv_iconst (v := 1) hx hb dL_law_1356 (by decide) ?_
    refine lv_iadd hx hb dL_law_1357 ?_
    refine l_ld (i := i) (j := 1) X hI (by omega) (nI_add i 1) dL_law_1358 ?_
    refine lv_aload_n hx hb dL_law_1359 rfl (lv_at hl 0 rfl) ?_
    refine lv_iload_n hx hb dL_law_1360 rfl (lv_at hl 3 rfl) ?_
    refine lv_iconst (v := 2) hx hb dL_law_1361 (by decide) ?_
    refine lv_iadd hx hb dL_law_1362 ?_
    refine l_ld (i := i) (j := 2) X hI (by omega) (nI_add i 2) dL_law_1363 ?_
    refine lv_if_eq (tgt := 1371) hx hb dL_law_1364 (by decide) (fun _ => ?_) (fun cz => absurd cb2 cz)
    refine lv_iconst (v := 0) hx hb dL_law_1371 (by decide) ?_
    have hI : IW g (fun q => s.heap.size ≤ q) s.heap (wMX g (wC g ad cs') am ms) H locs := hI
    refine l_L (rest := [.long r]) X hI (c_X6_share l g (wC g ad cs') am N (xs (i + 1)) false ms h2) (cwV 2 hts gL_law_X6_share rfl rfl rfl hv_X6_share ⟨Nat.le_of_ble_eq_true rfl, Nat.le_of_ble_eq_true rfl⟩) (w_recv X.1 hI (wC g ad cs').length wM_ob rfl) rfl hl.1 rfl (Nat.le_of_ble_eq_true rfl) dL_law_1372 (fun H locs hI => ?_)
    have hI : IW g (fun q => s.heap.size ≤ q) s.heap (wCX g (wM g am ms') ad cs') H locs := hI
    refine W.lcmp hx hb dL_law_1375 ?_
    exact lv_if_eq (tgt := 1453) hx hb dL_law_1376 (by decide) (fun _ => kk H locs ls hI hl) (fun cz => absurd (lg_self r) cz)
  · rw [bz_1 cb2] at h1 h2
    refine lv_aload_n hx hb dL_law_1331 rfl (lv_at hl 1 rfl) ?_
    refine lv_aload_n hx hb dL_law_1332 rfl (lv_at hl 0 rfl) ?_
    refine lv_iload_n hx hb dL_law_1333 rfl (lv_at hl 3 rfl) ?_
    refine lv_iconst (v := 1) hx hb dL_law_1334 (by decide) ?_
    refine lv_iadd hx hb dL_law_1335 ?_
    refine l_ld (i := i) (j := 1) X hI (by omega) (nI_add i 1) dL_law_1336 ?_
    refine lv_aload_n hx hb dL_law_1337 rfl (lv_at hl 0 rfl) ?_
    refine lv_iload_n hx hb dL_law_1338 rfl (lv_at hl 3 rfl) ?_
    refine lv_iconst (v := 2) hx hb dL_law_1339 (by decide) ?_
    refine lv_iadd hx hb dL_law_1340 ?_
    refine l_ld (i := i) (j := 2) X hI (by omega) (nI_add i 2) dL_law_1341 ?_
    refine lv_if_eq (tgt := 1349) hx hb dL_law_1342 (by decide) (fun cz => absurd cz cb2) (fun _ => ?_)
    refine lv_iconst (v := 1) hx hb dL_law_1345 (by decide) ?_
    refine lv_goto (tgt := 1350) hx hb dL_law_1346 (by decide) ?_
    refine l_L (rest := []) X hI (c_X5_share l g (wM g am ms) ad N (xs (i + 1)) true cs h1) (cwV 2 hts gL_law_X5_share rfl rfl rfl hv_X5_share ⟨Nat.le_of_ble_eq_true rfl, Nat.le_of_ble_eq_true rfl⟩) (w_recv X.1 hI 0 at_C rfl) rfl hl.1 rfl (Nat.le_of_ble_eq_true rfl) dL_law_1350 (fun H locs hI => ?_)
    refine lv_aload_n hx hb dL_law_1353 rfl (lv_at hl 2 rfl) ?_
    refine lv_aload_n hx hb dL_law_1354 rfl (lv_at hl 0 rfl) ?_
    refine lv_iload_n hx hb dL_law_1355 rfl (lv_at hl 3 rfl) ?_
    refine lv_iconst (v := 1) hx hb dL_law_1356 (by decide) ?_
    refine lv_iadd hx hb dL_law_1357 ?_
    refine l_ld (i := i) (j := 1) X hI (by omega) (nI_add i 1) dL_law_1358 ?_
    refine lv_aload_n hx hb dL_law_1359 rfl (lv_at hl 0 rfl) ?_
    refine lv_iload_n hx hb dL_law_1360 rfl (lv_at hl 3 rfl) ?_
    refine lv_iconst (v := 2) hx hb dL_law_1361 (by decide) ?_
    refine lv_iadd hx hb dL_law_1362 ?_
    refine l_ld (i := i) (j := 2) X hI (by omega) (nI_add i 2) dL_law_1363 ?_
    refine lv_if_eq (tgt := 1371) hx hb dL_law_1364 (by decide) (fun cz => absurd cz cb2) (fun _ => ?_)
    refine lv_iconst (v := 1) hx hb dL_law_1367 (by decide) ?_
    refine lv_goto (tgt := 1372) hx hb dL_law_1368 (by decide) ?_
    have hI : IW g (fun q => s.heap.size ≤ q) s.heap (wMX g (wC g ad cs') am ms) H locs := hI
    refine l_L (rest := [.long r]) X hI (c_X6_share l g (wC g ad cs') am N (xs (i + 1)) true ms h2) (cwV 2 hts gL_law_X6_share rfl rfl rfl hv_X6_share ⟨Nat.le_of_ble_eq_true rfl, Nat.le_of_ble_eq_true rfl⟩) (w_recv X.1 hI (wC g ad cs').length wM_ob rfl) rfl hl.1 rfl (Nat.le_of_ble_eq_true rfl) dL_law_1372 (fun H locs hI => ?_)
    have hI : IW g (fun q => s.heap.size ≤ q) s.heap (wCX g (wM g am ms') ad cs') H locs := hI
    refine W.lcmp hx hb dL_law_1375 ?_
    exact lv_if_eq (tgt := 1453) hx hb dL_law_1376 (by decide) (fun _ => kk H locs ls hI hl) (fun cz => absurd (lg_self r) cz)
set_option maxHeartbeats 4000000 in
set_option maxRecDepth 100000 in
theorem lc_34 {p : Program} {l : Launch} {e : Env} {s : State} {m : MethodId} {below : List Frame} {meth : Method} {c : Code} {H : Heap} {locs : List Loc} {b L i : Nat} {xs : Nat → Int32} {ls : Array Slot} {g : GP} {ad am : Nat → Nat} (N : Nat) {cs cs' ms ms' : St} {r : Int32} (X : LCx p s m c b L xs g) (hI : IW g (fun q => s.heap.size ≤ q) s.heap (wCX g (wM g am ms) ad cs) H locs) (hl : lv_has ls 4 [(0, .ref b), (1, .ref (ad 0)), (2, .ref (am 0)), (3, .int (nI i))]) (hi : i + 5 < L) (h1 : f_X5_people N cs (xs (i + 1)) = some (r, cs')) (h2 : f_X6_people N ms (xs (i + 1)) = some (r, ms'))
    (kk : ∀ (H : Heap) (locs : List Loc) (ls : Array Slot), IW g (fun q => s.heap.size ≤ q) s.heap (wCX g (wM g am ms') ad cs') H locs → lv_has ls 4 [(0, .ref b), (1, .ref (ad 0)), (2, .ref (am 0)), (3, .int (nI i))] → WL p l e s m b below meth c H locs (F0 m 1453 ls [])) : WL p l e s m b below meth c H locs (F0 m 1381 ls []) := by
  obtain ⟨hx, hb, hml, hown, hts⟩ := id X.1.1
  refine lv_aload_n hx hb dL_law_1381 rfl (lv_at hl 1 rfl) ?_
  refine lv_aload_n hx hb dL_law_1382 rfl (lv_at hl 0 rfl) ?_
  refine lv_iload_n hx hb dL_law_1383 rfl (lv_at hl 3 rfl) ?_
  refine lv_iconst (v := 1) hx hb dL_law_1384 (by decide) ?_
  refine lv_iadd hx hb dL_law_1385 ?_
  refine l_ld (i := i) (j := 1) X hI (by omega) (nI_add i 1) dL_law_1386 ?_
  refine l_I (rest := []) X hI (c_X5_people l g (wM g am ms) ad N (xs (i + 1)) cs h1) (cwV 1 hts gL_law_X5_people rfl rfl rfl hv_X5_people ⟨Nat.le_of_ble_eq_true rfl, Nat.le_of_ble_eq_true rfl⟩) (w_recv X.1 hI 0 at_C rfl) rfl hl.1 rfl (Nat.le_of_ble_eq_true rfl) dL_law_1387 (fun H locs hI => ?_)
  refine lv_aload_n hx hb dL_law_1390 rfl (lv_at hl 2 rfl) ?_
  refine lv_aload_n hx hb dL_law_1391 rfl (lv_at hl 0 rfl) ?_
  refine lv_iload_n hx hb dL_law_1392 rfl (lv_at hl 3 rfl) ?_
  refine lv_iconst (v := 1) hx hb dL_law_1393 (by decide) ?_
  refine lv_iadd hx hb dL_law_1394 ?_
  refine l_ld (i := i) (j := 1) X hI (by omega) (nI_add i 1) dL_law_1395 ?_
  have hI : IW g (fun q => s.heap.size ≤ q) s.heap (wMX g (wC g ad cs') am ms) H locs := hI
  refine l_I (rest := [.int r]) X hI (c_X6_people l g (wC g ad cs') am N (xs (i + 1)) ms h2) (cwV 1 hts gL_law_X6_people rfl rfl rfl hv_X6_people ⟨Nat.le_of_ble_eq_true rfl, Nat.le_of_ble_eq_true rfl⟩) (w_recv X.1 hI (wC g ad cs').length wM_ob rfl) rfl hl.1 rfl (Nat.le_of_ble_eq_true rfl) dL_law_1396 (fun H locs hI => ?_)
  have hI : IW g (fun q => s.heap.size ≤ q) s.heap (wCX g (wM g am ms') ad cs') H locs := hI
  exact lv_icmp_eq (tgt := 1453) hx hb dL_law_1399 (by decide) (fun _ => kk H locs ls hI hl) (fun cz => absurd rfl cz)
set_option maxHeartbeats 4000000 in
set_option maxRecDepth 100000 in
theorem lc_35 {p : Program} {l : Launch} {e : Env} {s : State} {m : MethodId} {below : List Frame} {meth : Method} {c : Code} {H : Heap} {locs : List Loc} {b L i : Nat} {xs : Nat → Int32} {ls : Array Slot} {g : GP} {ad am : Nat → Nat} (N : Nat) {cs cs' ms ms' : St} {r : Int32} (X : LCx p s m c b L xs g) (hI : IW g (fun q => s.heap.size ≤ q) s.heap (wCX g (wM g am ms) ad cs) H locs) (hl : lv_has ls 4 [(0, .ref b), (1, .ref (ad 0)), (2, .ref (am 0)), (3, .int (nI i))]) (hi : i + 5 < L) (h1 : f_X5_keep N cs = some (r, cs')) (h2 : f_X6_keep N ms = some (r, ms'))
    (kk : ∀ (H : Heap) (locs : List Loc) (ls : Array Slot), IW g (fun q => s.heap.size ≤ q) s.heap (wCX g (wM g am ms') ad cs') H locs → lv_has ls 4 [(0, .ref b), (1, .ref (ad 0)), (2, .ref (am 0)), (3, .int (nI i))] → WL p l e s m b below meth c H locs (F0 m 1453 ls [])) : WL p l e s m b below meth c H locs (F0 m 1404 ls []) := by
  obtain ⟨hx, hb, hml, hown, hts⟩ := id X.1.1
  refine lv_aload_n hx hb dL_law_1404 rfl (lv_at hl 1 rfl) ?_
  refine l_I (rest := []) X hI (c_X5_keep l g (wM g am ms) ad N cs h1) (cwV 0 hts gL_law_X5_keep rfl rfl rfl hv_X5_keep ⟨Nat.le_of_ble_eq_true rfl, Nat.le_of_ble_eq_true rfl⟩) (w_recv X.1 hI 0 at_C rfl) rfl hl.1 rfl (Nat.le_of_ble_eq_true rfl) dL_law_1405 (fun H locs hI => ?_)
  refine lv_aload_n hx hb dL_law_1408 rfl (lv_at hl 2 rfl) ?_
  have hI : IW g (fun q => s.heap.size ≤ q) s.heap (wMX g (wC g ad cs') am ms) H locs := hI
  refine l_I (rest := [.int r]) X hI (c_X6_keep l g (wC g ad cs') am N ms h2) (cwV 0 hts gL_law_X6_keep rfl rfl rfl hv_X6_keep ⟨Nat.le_of_ble_eq_true rfl, Nat.le_of_ble_eq_true rfl⟩) (w_recv X.1 hI (wC g ad cs').length wM_ob rfl) rfl hl.1 rfl (Nat.le_of_ble_eq_true rfl) dL_law_1409 (fun H locs hI => ?_)
  have hI : IW g (fun q => s.heap.size ≤ q) s.heap (wCX g (wM g am ms') ad cs') H locs := hI
  exact lv_icmp_eq (tgt := 1453) hx hb dL_law_1412 (by decide) (fun _ => kk H locs ls hI hl) (fun cz => absurd rfl cz)
set_option maxHeartbeats 4000000 in
set_option maxRecDepth 100000 in
theorem lc_36 {p : Program} {l : Launch} {e : Env} {s : State} {m : MethodId} {below : List Frame} {meth : Method} {c : Code} {H : Heap} {locs : List Loc} {b L i : Nat} {xs : Nat → Int32} {ls : Array Slot} {g : GP} {ad am : Nat → Nat} (N : Nat) {cs cs' ms ms' : St} {r : Int32} (X : LCx p s m c b L xs g) (hI : IW g (fun q => s.heap.size ≤ q) s.heap (wCX g (wM g am ms) ad cs) H locs) (hl : lv_has ls 4 [(0, .ref b), (1, .ref (ad 0)), (2, .ref (am 0)), (3, .int (nI i))]) (hi : i + 5 < L) (h1 : f_X5_back N cs = some (r, cs')) (h2 : f_X6_back N ms = some (r, ms'))
    (kk : ∀ (H : Heap) (locs : List Loc) (ls : Array Slot), IW g (fun q => s.heap.size ≤ q) s.heap (wCX g (wM g am ms') ad cs') H locs → lv_has ls 4 [(0, .ref b), (1, .ref (ad 0)), (2, .ref (am 0)), (3, .int (nI i))] → WL p l e s m b below meth c H locs (F0 m 1453 ls [])) : WL p l e s m b below meth c H locs (F0 m 1417 ls []) := by
  obtain ⟨hx, hb, hml, hown, hts⟩ := id X.1.1
  refine lv_aload_n hx hb dL_law_1417 rfl (lv_at hl 1 rfl) ?_
  refine l_I (rest := []) X hI (c_X5_back l g (wM g am ms) ad N cs h1) (cwV 0 hts gL_law_X5_back rfl rfl rfl hv_X5_back ⟨Nat.le_of_ble_eq_true rfl, Nat.le_of_ble_eq_true rfl⟩) (w_recv X.1 hI 0 at_C rfl) rfl hl.1 rfl (Nat.le_of_ble_eq_true rfl) dL_law_1418 (fun H locs hI => ?_)
  refine lv_aload_n hx hb dL_law_1421 rfl (lv_at hl 2 rfl) ?_
  have hI : IW g (fun q => s.heap.size ≤ q) s.heap (wMX g (wC g ad cs') am ms) H locs := hI
  refine l_I (rest := [.int r]) X hI (c_X6_back l g (wC g ad cs') am N ms h2) (cwV 0 hts gL_law_X6_back rfl rfl rfl hv_X6_back ⟨Nat.le_of_ble_eq_true rfl, Nat.le_of_ble_eq_true rfl⟩) (w_recv X.1 hI (wC g ad cs').length wM_ob rfl) rfl hl.1 rfl (Nat.le_of_ble_eq_true rfl) dL_law_1422 (fun H locs hI => ?_)
  have hI : IW g (fun q => s.heap.size ≤ q) s.heap (wCX g (wM g am ms') ad cs') H locs := hI
  exact lv_icmp_eq (tgt := 1453) hx hb dL_law_1425 (by decide) (fun _ => kk H locs ls hI hl) (fun cz => absurd rfl cz)
set_option maxHeartbeats 4000000 in
set_option maxRecDepth 100000 in
theorem lc_37 {p : Program} {l : Launch} {e : Env} {s : State} {m : MethodId} {below : List Frame} {meth : Method} {c : Code} {H : Heap} {locs : List Loc} {b L i : Nat} {xs : Nat → Int32} {ls : Array Slot} {g : GP} {ad am : Nat → Nat} (N : Nat) {cs cs' ms ms' : St} {r : Int32} (X : LCx p s m c b L xs g) (hI : IW g (fun q => s.heap.size ≤ q) s.heap (wCX g (wM g am ms) ad cs) H locs) (hl : lv_has ls 4 [(0, .ref b), (1, .ref (ad 0)), (2, .ref (am 0)), (3, .int (nI i))]) (hi : i + 5 < L) (h1 : f_X5_told N cs (xs (i + 1)) = some (r, cs')) (h2 : f_X6_told N ms (xs (i + 1)) = some (r, ms'))
    (kk : ∀ (H : Heap) (locs : List Loc) (ls : Array Slot), IW g (fun q => s.heap.size ≤ q) s.heap (wCX g (wM g am ms') ad cs') H locs → lv_has ls 4 [(0, .ref b), (1, .ref (ad 0)), (2, .ref (am 0)), (3, .int (nI i))] → WL p l e s m b below meth c H locs (F0 m 1453 ls [])) : WL p l e s m b below meth c H locs (F0 m 1430 ls []) := by
  obtain ⟨hx, hb, hml, hown, hts⟩ := id X.1.1
  refine lv_aload_n hx hb dL_law_1430 rfl (lv_at hl 1 rfl) ?_
  refine lv_aload_n hx hb dL_law_1431 rfl (lv_at hl 0 rfl) ?_
  refine lv_iload_n hx hb dL_law_1432 rfl (lv_at hl 3 rfl) ?_
  refine lv_iconst (v := 1) hx hb dL_law_1433 (by decide) ?_
  refine lv_iadd hx hb dL_law_1434 ?_
  refine l_ld (i := i) (j := 1) X hI (by omega) (nI_add i 1) dL_law_1435 ?_
  refine l_I (rest := []) X hI (c_X5_told l g (wM g am ms) ad N (xs (i + 1)) cs h1) (cwV 1 hts gL_law_X5_told rfl rfl rfl hv_X5_told ⟨Nat.le_of_ble_eq_true rfl, Nat.le_of_ble_eq_true rfl⟩) (w_recv X.1 hI 0 at_C rfl) rfl hl.1 rfl (Nat.le_of_ble_eq_true rfl) dL_law_1436 (fun H locs hI => ?_)
  refine lv_aload_n hx hb dL_law_1439 rfl (lv_at hl 2 rfl) ?_
  refine lv_aload_n hx hb dL_law_1440 rfl (lv_at hl 0 rfl) ?_
  refine lv_iload_n hx hb dL_law_1441 rfl (lv_at hl 3 rfl) ?_
  refine lv_iconst (v := 1) hx hb dL_law_1442 (by decide) ?_
  refine lv_iadd hx hb dL_law_1443 ?_
  refine l_ld (i := i) (j := 1) X hI (by omega) (nI_add i 1) dL_law_1444 ?_
  have hI : IW g (fun q => s.heap.size ≤ q) s.heap (wMX g (wC g ad cs') am ms) H locs := hI
  refine l_I (rest := [.int r]) X hI (c_X6_told l g (wC g ad cs') am N (xs (i + 1)) ms h2) (cwV 1 hts gL_law_X6_told rfl rfl rfl hv_X6_told ⟨Nat.le_of_ble_eq_true rfl, Nat.le_of_ble_eq_true rfl⟩) (w_recv X.1 hI (wC g ad cs').length wM_ob rfl) rfl hl.1 rfl (Nat.le_of_ble_eq_true rfl) dL_law_1445 (fun H locs hI => ?_)
  have hI : IW g (fun q => s.heap.size ≤ q) s.heap (wCX g (wM g am ms') ad cs') H locs := hI
  exact lv_icmp_eq (tgt := 1453) hx hb dL_law_1448 (by decide) (fun _ => kk H locs ls hI hl) (fun cz => absurd rfl cz)
