/-! the law: its own rows -/
def bz (v : Int32) : Bool := decide (¬ v = 0)
theorem bz_0 {v : Int32} (h : v = 0) : bz v = false := by simp [bz, h]
theorem bz_1 {v : Int32} (h : ¬ v = 0) : bz v = true := by simp [bz, h]
def LCx (p : Program) (s : State) (m : MethodId) (c : Code) (b L : Nat) (xs : Nat → Int32) (g : GP) : Prop := Cx p s m #[Value.ref b] c code 4 wsL_law RL g (fun q => s.heap.size ≤ q) ∧ va_X b L xs s s.heap ∧ b < s.heap.size ∧ L ≤ 3072
abbrev WL (p : Program) (l : Launch) (e : Env) (s : State) (m : MethodId) (b : Nat) (below : List Frame) (meth : Method) (c : Code) (H : Heap) (locs : List Loc) (f : JFrame) : Prop := W p l e room_1 s m #[Value.ref b] below meth c H locs 600000 7302250 (lw_Z below #[Value.ref b] s) f
theorem lg_self (x : Int64) : lg_cmp x x = 0 := by
  unfold lg_cmp
  simp
section LawRows
variable {p : Program} {l : Launch} {e : Env} {s : State} {m : MethodId} {below : List Frame} {meth : Method} {c : Code} {H : Heap} {locs : List Loc} {pc b L maxL n index : Nat} {xs : Nat → Int32} {ls : Array Slot} {rest st0 As : List Value} {g : GP} {bytes : ByteArray} {ws : List Cond} {C : String} {y : MethodName} {ret : Option FieldType} {rm : Room} {wf : St → va_W} {st st' : St} {a : Nat} {w : va_W}
theorem l_ld (X : LCx p s m c b L xs g) (hI : IW g (fun q => s.heap.size ≤ q) s.heap w H locs) {i j : Nat} (hij : i + j < L) {x : Int32} (hx : x = nI (i + j)) (hdg : decode code pc = .ok (.iaload, 1)) (kk : WL p l e s m b below meth c H locs (F0 m (pc + 1) ls (.int (xs (i + j)) :: rest))) : WL p l e s m b below meth c H locs (F0 m pc ls (.int x :: .ref b :: rest)) := by
  subst hx
  have hb : i + j < 2 ^ 31 := by have := X.2.2.2; omega
  refine va_sld X.1.1.1 X.1.1.2.1 X.2.1 X.2.2.1 (Nat.not_le.mpr X.2.2.1) hI.2.2.1 (vp_in_nI hij (by have := X.2.2.2; omega)) hdg ?_
  rw [nI_clamp hb]
  exact kk
theorem l_I {r : Int32} (X : LCx p s m c b L xs g) (hI : IW g (fun q => s.heap.size ≤ q) s.heap (wf st) H locs) (hM : MetI l y ws rm g wf (.ref a :: As) st r st') (cw : CallW room_1 s #[Value.ref b] RL C index y bytes maxL ret ws rm 0 0 n) (hv : ∃ cell : Cell, H[a]? = some cell ∧ cell.vm.isStatics = false ∧ s.vm.findClass C = some cell.cls) (hn : As.length = n) (hs : ls.size = 4) (hk : st0 = As.reverse ++ .ref a :: rest) (hW : (rest.map fun v => v.category).sum ≤ 8) (hdg : decode code pc = .ok (.invokevirtual index, 3))
    (kk : ∀ (H1 : Heap) (locs1 : List Loc), IW g (fun q => s.heap.size ≤ q) s.heap (wf st') H1 locs1 → WL p l e s m b below meth c H1 locs1 (F0 m (pc + 3) ls (.int r :: rest))) : WL p l e s m b below meth c H locs (F0 m pc ls st0) := by
  refine va_calli (va_runV (As := As) (rest := rest) X.1.1 (hM H.size) cw ⟨blind_G, hv, pre_G X.1 hI⟩ rfl hn hs hk (lv_room hW) hdg ⟨Nat.le_of_ble_eq_true rfl, Nat.le_of_ble_eq_true rfl⟩) hI.2.2.1 (fun q _ h => free_all hI q h) (free_all hI) (fun r' u t H1 locs1 ht hvm hw hB hz hk1 hS => ?_)
  subst hw
  exact kk H1 locs1 ⟨by rw [← ht]; exact hB.1, hB.2.weaken (fun _ _ _ h => free_all hI _ h), hS, hI.2.2.2⟩
theorem l_L {r : Int64} (X : LCx p s m c b L xs g) (hI : IW g (fun q => s.heap.size ≤ q) s.heap (wf st) H locs) (hM : MetL l y ws rm g wf (.ref a :: As) st r st') (cw : CallW room_1 s #[Value.ref b] RL C index y bytes maxL ret ws rm 0 0 n) (hv : ∃ cell : Cell, H[a]? = some cell ∧ cell.vm.isStatics = false ∧ s.vm.findClass C = some cell.cls) (hn : As.length = n) (hs : ls.size = 4) (hk : st0 = As.reverse ++ .ref a :: rest) (hW : (rest.map fun v => v.category).sum ≤ 8) (hdg : decode code pc = .ok (.invokevirtual index, 3))
    (kk : ∀ (H1 : Heap) (locs1 : List Loc), IW g (fun q => s.heap.size ≤ q) s.heap (wf st') H1 locs1 → WL p l e s m b below meth c H1 locs1 (F0 m (pc + 3) ls (.long r :: rest))) : WL p l e s m b below meth c H locs (F0 m pc ls st0) := by
  refine va_calll (va_runV (As := As) (rest := rest) X.1.1 (hM H.size) cw ⟨blind_G, hv, pre_G X.1 hI⟩ rfl hn hs hk (lv_room hW) hdg ⟨Nat.le_of_ble_eq_true rfl, Nat.le_of_ble_eq_true rfl⟩) hI.2.2.1 (fun q _ h => free_all hI q h) (free_all hI) (fun r' u t H1 locs1 ht hvm hw hB hz hk1 hS => ?_)
  subst hw
  exact kk H1 locs1 ⟨by rw [← ht]; exact hB.1, hB.2.weaken (fun _ _ _ h => free_all hI _ h), hS, hI.2.2.2⟩
end LawRows
set_option maxHeartbeats 4000000 in
set_option maxRecDepth 100000 in
theorem lc_0 {p : Program} {l : Launch} {e : Env} {s : State} {m : MethodId} {below : List Frame} {meth : Method} {c : Code} {H : Heap} {locs : List Loc} {b L i : Nat} {xs : Nat → Int32} {ls : Array Slot} {g : GP} {ad am : Nat → Nat} (N : Nat) {cs cs' ms ms' : St} {r : Int32} (X : LCx p s m c b L xs g) (hI : IW g (fun q => s.heap.size ≤ q) s.heap (wCX g (wM g am ms) ad cs) H locs) (hl : lv_has ls 4 [(0, .ref b), (1, .ref (ad 0)), (2, .ref (am 0)), (3, .int (nI i))]) (hi : i + 5 < L) (h1 : f_X5_grave cs (xs (i + 1)) (xs (i + 2)) (xs (i + 3)) = some (r, cs')) (h2 : f_X6_grave ms (xs (i + 1)) (xs (i + 2)) (xs (i + 3)) = some (r, ms'))
    (kk : ∀ (H : Heap) (locs : List Loc) (ls : Array Slot), IW g (fun q => s.heap.size ≤ q) s.heap (wCX g (wM g am ms') ad cs') H locs → lv_has ls 4 [(0, .ref b), (1, .ref (ad 0)), (2, .ref (am 0)), (3, .int (nI i))] → WL p l e s m b below meth c H locs (F0 m 1453 ls [])) : WL p l e s m b below meth c H locs (F0 m 200 ls []) := by
  obtain ⟨hx, hb, hml, hown, hts⟩ := id X.1.1
  refine lv_aload_n hx hb dL_law_200 rfl (lv_at hl 1 rfl) ?_
  refine lv_aload_n hx hb dL_law_201 rfl (lv_at hl 0 rfl) ?_
  refine lv_iload_n hx hb dL_law_202 rfl (lv_at hl 3 rfl) ?_
  refine lv_iconst (v := 1) hx hb dL_law_203 (by decide) ?_
  refine lv_iadd hx hb dL_law_204 ?_
  refine l_ld (i := i) (j := 1) X hI (by omega) (nI_add i 1) dL_law_205 ?_
  refine lv_aload_n hx hb dL_law_206 rfl (lv_at hl 0 rfl) ?_
  refine lv_iload_n hx hb dL_law_207 rfl (lv_at hl 3 rfl) ?_
  refine lv_iconst (v := 2) hx hb dL_law_208 (by decide) ?_
  refine lv_iadd hx hb dL_law_209 ?_
  refine l_ld (i := i) (j := 2) X hI (by omega) (nI_add i 2) dL_law_210 ?_
  refine lv_aload_n hx hb dL_law_211 rfl (lv_at hl 0 rfl) ?_
  refine lv_iload_n hx hb dL_law_212 rfl (lv_at hl 3 rfl) ?_
  refine lv_iconst (v := 3) hx hb dL_law_213 (by decide) ?_
  refine lv_iadd hx hb dL_law_214 ?_
  refine l_ld (i := i) (j := 3) X hI (by omega) (nI_add i 3) dL_law_215 ?_
  refine l_I (rest := []) X hI (c_X5_grave l g (wM g am ms) ad (xs (i + 1)) (xs (i + 2)) (xs (i + 3)) cs h1) (cwV 3 hts gL_law_X5_grave rfl rfl rfl hv_X5_grave ⟨Nat.le_of_ble_eq_true rfl, Nat.le_of_ble_eq_true rfl⟩) (w_recv X.1 hI 0 at_C rfl) rfl hl.1 rfl (Nat.le_of_ble_eq_true rfl) dL_law_216 (fun H locs hI => ?_)
  refine lv_aload_n hx hb dL_law_219 rfl (lv_at hl 2 rfl) ?_
  refine lv_aload_n hx hb dL_law_220 rfl (lv_at hl 0 rfl) ?_
  refine lv_iload_n hx hb dL_law_221 rfl (lv_at hl 3 rfl) ?_
  refine lv_iconst (v := 1) hx hb dL_law_222 (by decide) ?_
  refine lv_iadd hx hb dL_law_223 ?_
  refine l_ld (i := i) (j := 1) X hI (by omega) (nI_add i 1) dL_law_224 ?_
  refine lv_aload_n hx hb dL_law_225 rfl (lv_at hl 0 rfl) ?_
  refine lv_iload_n hx hb dL_law_226 rfl (lv_at hl 3 rfl) ?_
  refine lv_iconst (v := 2) hx hb dL_law_227 (by decide) ?_
  refine lv_iadd hx hb dL_law_228 ?_
  refine l_ld (i := i) (j := 2) X hI (by omega) (nI_add i 2) dL_law_229 ?_
  refine lv_aload_n hx hb dL_law_230 rfl (lv_at hl 0 rfl) ?_
  refine lv_iload_n hx hb dL_law_231 rfl (lv_at hl 3 rfl) ?_
  refine lv_iconst (v := 3) hx hb dL_law_232 (by decide) ?_
  refine lv_iadd hx hb dL_law_233 ?_
  refine l_ld (i := i) (j := 3) X hI (by omega) (nI_add i 3) dL_law_234 ?_
  have hI : IW g (fun q => s.heap.size ≤ q) s.heap (wMX g (wC g ad cs') am ms) H locs := hI
  refine l_I (rest := [.int r]) X hI (c_X6_grave l g (wC g ad cs') am (xs (i + 1)) (xs (i + 2)) (xs (i + 3)) ms h2) (cwV 3 hts gL_law_X6_grave rfl rfl rfl hv_X6_grave ⟨Nat.le_of_ble_eq_true rfl, Nat.le_of_ble_eq_true rfl⟩) (w_recv X.1 hI (wC g ad cs').length wM_ob rfl) rfl hl.1 rfl (Nat.le_of_ble_eq_true rfl) dL_law_235 (fun H locs hI => ?_)
  have hI : IW g (fun q => s.heap.size ≤ q) s.heap (wCX g (wM g am ms') ad cs') H locs := hI
  exact lv_icmp_eq (tgt := 1453) hx hb dL_law_238 (by decide) (fun _ => kk H locs ls hI hl) (fun cz => absurd rfl cz)
set_option maxHeartbeats 4000000 in
set_option maxRecDepth 100000 in
theorem lc_1 {p : Program} {l : Launch} {e : Env} {s : State} {m : MethodId} {below : List Frame} {meth : Method} {c : Code} {H : Heap} {locs : List Loc} {b L i : Nat} {xs : Nat → Int32} {ls : Array Slot} {g : GP} {ad am : Nat → Nat} (N : Nat) {cs cs' ms ms' : St} {r : Int32} (X : LCx p s m c b L xs g) (hI : IW g (fun q => s.heap.size ≤ q) s.heap (wCX g (wM g am ms) ad cs) H locs) (hl : lv_has ls 4 [(0, .ref b), (1, .ref (ad 0)), (2, .ref (am 0)), (3, .int (nI i))]) (hi : i + 5 < L) (h1 : f_X5_as N cs (xs (i + 1)) (xs (i + 2)) = some (r, cs')) (h2 : f_X6_as ms (xs (i + 1)) (xs (i + 2)) = some (r, ms'))
    (kk : ∀ (H : Heap) (locs : List Loc) (ls : Array Slot), IW g (fun q => s.heap.size ≤ q) s.heap (wCX g (wM g am ms') ad cs') H locs → lv_has ls 4 [(0, .ref b), (1, .ref (ad 0)), (2, .ref (am 0)), (3, .int (nI i))] → WL p l e s m b below meth c H locs (F0 m 1453 ls [])) : WL p l e s m b below meth c H locs (F0 m 243 ls []) := by
  obtain ⟨hx, hb, hml, hown, hts⟩ := id X.1.1
  refine lv_aload_n hx hb dL_law_243 rfl (lv_at hl 1 rfl) ?_
  refine lv_aload_n hx hb dL_law_244 rfl (lv_at hl 0 rfl) ?_
  refine lv_iload_n hx hb dL_law_245 rfl (lv_at hl 3 rfl) ?_
  refine lv_iconst (v := 1) hx hb dL_law_246 (by decide) ?_
  refine lv_iadd hx hb dL_law_247 ?_
  refine l_ld (i := i) (j := 1) X hI (by omega) (nI_add i 1) dL_law_248 ?_
  refine lv_aload_n hx hb dL_law_249 rfl (lv_at hl 0 rfl) ?_
  refine lv_iload_n hx hb dL_law_250 rfl (lv_at hl 3 rfl) ?_
  refine lv_iconst (v := 2) hx hb dL_law_251 (by decide) ?_
  refine lv_iadd hx hb dL_law_252 ?_
  refine l_ld (i := i) (j := 2) X hI (by omega) (nI_add i 2) dL_law_253 ?_
  refine l_I (rest := []) X hI (c_X5_as l g (wM g am ms) ad N (xs (i + 1)) (xs (i + 2)) cs h1) (cwV 2 hts gL_law_X5_as rfl rfl rfl hv_X5_as ⟨Nat.le_of_ble_eq_true rfl, Nat.le_of_ble_eq_true rfl⟩) (w_recv X.1 hI 0 at_C rfl) rfl hl.1 rfl (Nat.le_of_ble_eq_true rfl) dL_law_254 (fun H locs hI => ?_)
  refine lv_aload_n hx hb dL_law_257 rfl (lv_at hl 2 rfl) ?_
  refine lv_aload_n hx hb dL_law_258 rfl (lv_at hl 0 rfl) ?_
  refine lv_iload_n hx hb dL_law_259 rfl (lv_at hl 3 rfl) ?_
  refine lv_iconst (v := 1) hx hb dL_law_260 (by decide) ?_
  refine lv_iadd hx hb dL_law_261 ?_
  refine l_ld (i := i) (j := 1) X hI (by omega) (nI_add i 1) dL_law_262 ?_
  refine lv_aload_n hx hb dL_law_263 rfl (lv_at hl 0 rfl) ?_
  refine lv_iload_n hx hb dL_law_264 rfl (lv_at hl 3 rfl) ?_
  refine lv_iconst (v := 2) hx hb dL_law_265 (by decide) ?_
  refine lv_iadd hx hb dL_law_266 ?_
  refine l_ld (i := i) (j := 2) X hI (by omega) (nI_add i 2) dL_law_267 ?_
  have hI : IW g (fun q => s.heap.size ≤ q) s.heap (wMX g (wC g ad cs') am ms) H locs := hI
  refine l_I (rest := [.int r]) X hI (c_X6_as l g (wC g ad cs') am (xs (i + 1)) (xs (i + 2)) ms h2) (cwV 2 hts gL_law_X6_as rfl rfl rfl hv_X6_as ⟨Nat.le_of_ble_eq_true rfl, Nat.le_of_ble_eq_true rfl⟩) (w_recv X.1 hI (wC g ad cs').length wM_ob rfl) rfl hl.1 rfl (Nat.le_of_ble_eq_true rfl) dL_law_268 (fun H locs hI => ?_)
  have hI : IW g (fun q => s.heap.size ≤ q) s.heap (wCX g (wM g am ms') ad cs') H locs := hI
  exact lv_icmp_eq (tgt := 1453) hx hb dL_law_271 (by decide) (fun _ => kk H locs ls hI hl) (fun cz => absurd rfl cz)
set_option maxHeartbeats 4000000 in
set_option maxRecDepth 100000 in
theorem lc_2 {p : Program} {l : Launch} {e : Env} {s : State} {m : MethodId} {below : List Frame} {meth : Method} {c : Code} {H : Heap} {locs : List Loc} {b L i : Nat} {xs : Nat → Int32} {ls : Array Slot} {g : GP} {ad am : Nat → Nat} (N : Nat) {cs cs' ms ms' : St} {r : Int32} (X : LCx p s m c b L xs g) (hI : IW g (fun q => s.heap.size ≤ q) s.heap (wCX g (wM g am ms) ad cs) H locs) (hl : lv_has ls 4 [(0, .ref b), (1, .ref (ad 0)), (2, .ref (am 0)), (3, .int (nI i))]) (hi : i + 5 < L) (h1 : f_X5_goods cs (xs (i + 1)) (xs (i + 2)) = some (r, cs')) (h2 : f_X6_goods ms (xs (i + 1)) (xs (i + 2)) = some (r, ms'))
    (kk : ∀ (H : Heap) (locs : List Loc) (ls : Array Slot), IW g (fun q => s.heap.size ≤ q) s.heap (wCX g (wM g am ms') ad cs') H locs → lv_has ls 4 [(0, .ref b), (1, .ref (ad 0)), (2, .ref (am 0)), (3, .int (nI i))] → WL p l e s m b below meth c H locs (F0 m 1453 ls [])) : WL p l e s m b below meth c H locs (F0 m 276 ls []) := by
  obtain ⟨hx, hb, hml, hown, hts⟩ := id X.1.1
  refine lv_aload_n hx hb dL_law_276 rfl (lv_at hl 1 rfl) ?_
  refine lv_aload_n hx hb dL_law_277 rfl (lv_at hl 0 rfl) ?_
  refine lv_iload_n hx hb dL_law_278 rfl (lv_at hl 3 rfl) ?_
  refine lv_iconst (v := 1) hx hb dL_law_279 (by decide) ?_
  refine lv_iadd hx hb dL_law_280 ?_
  refine l_ld (i := i) (j := 1) X hI (by omega) (nI_add i 1) dL_law_281 ?_
  refine lv_aload_n hx hb dL_law_282 rfl (lv_at hl 0 rfl) ?_
  refine lv_iload_n hx hb dL_law_283 rfl (lv_at hl 3 rfl) ?_
  refine lv_iconst (v := 2) hx hb dL_law_284 (by decide) ?_
  refine lv_iadd hx hb dL_law_285 ?_
  refine l_ld (i := i) (j := 2) X hI (by omega) (nI_add i 2) dL_law_286 ?_
  refine l_I (rest := []) X hI (c_X5_goods l g (wM g am ms) ad (xs (i + 1)) (xs (i + 2)) cs h1) (cwV 2 hts gL_law_X5_goods rfl rfl rfl hv_X5_goods ⟨Nat.le_of_ble_eq_true rfl, Nat.le_of_ble_eq_true rfl⟩) (w_recv X.1 hI 0 at_C rfl) rfl hl.1 rfl (Nat.le_of_ble_eq_true rfl) dL_law_287 (fun H locs hI => ?_)
  refine lv_aload_n hx hb dL_law_290 rfl (lv_at hl 2 rfl) ?_
  refine lv_aload_n hx hb dL_law_291 rfl (lv_at hl 0 rfl) ?_
  refine lv_iload_n hx hb dL_law_292 rfl (lv_at hl 3 rfl) ?_
  refine lv_iconst (v := 1) hx hb dL_law_293 (by decide) ?_
  refine lv_iadd hx hb dL_law_294 ?_
  refine l_ld (i := i) (j := 1) X hI (by omega) (nI_add i 1) dL_law_295 ?_
  refine lv_aload_n hx hb dL_law_296 rfl (lv_at hl 0 rfl) ?_
  refine lv_iload_n hx hb dL_law_297 rfl (lv_at hl 3 rfl) ?_
  refine lv_iconst (v := 2) hx hb dL_law_298 (by decide) ?_
  refine lv_iadd hx hb dL_law_299 ?_
  refine l_ld (i := i) (j := 2) X hI (by omega) (nI_add i 2) dL_law_300 ?_
  have hI : IW g (fun q => s.heap.size ≤ q) s.heap (wMX g (wC g ad cs') am ms) H locs := hI
  refine l_I (rest := [.int r]) X hI (c_X6_goods l g (wC g ad cs') am (xs (i + 1)) (xs (i + 2)) ms h2) (cwV 2 hts gL_law_X6_goods rfl rfl rfl hv_X6_goods ⟨Nat.le_of_ble_eq_true rfl, Nat.le_of_ble_eq_true rfl⟩) (w_recv X.1 hI (wC g ad cs').length wM_ob rfl) rfl hl.1 rfl (Nat.le_of_ble_eq_true rfl) dL_law_301 (fun H locs hI => ?_)
  have hI : IW g (fun q => s.heap.size ≤ q) s.heap (wCX g (wM g am ms') ad cs') H locs := hI
  exact lv_icmp_eq (tgt := 1453) hx hb dL_law_304 (by decide) (fun _ => kk H locs ls hI hl) (fun cz => absurd rfl cz)
set_option maxHeartbeats 4000000 in
set_option maxRecDepth 100000 in
theorem lc_3 {p : Program} {l : Launch} {e : Env} {s : State} {m : MethodId} {below : List Frame} {meth : Method} {c : Code} {H : Heap} {locs : List Loc} {b L i : Nat} {xs : Nat → Int32} {ls : Array Slot} {g : GP} {ad am : Nat → Nat} (N : Nat) {cs cs' ms ms' : St} {r : Int32} (X : LCx p s m c b L xs g) (hI : IW g (fun q => s.heap.size ≤ q) s.heap (wCX g (wM g am ms) ad cs) H locs) (hl : lv_has ls 4 [(0, .ref b), (1, .ref (ad 0)), (2, .ref (am 0)), (3, .int (nI i))]) (hi : i + 5 < L) (h1 : f_X5_of N cs (xs (i + 1)) (xs (i + 2)) = some (r, cs')) (h2 : f_X6_of N ms (xs (i + 1)) (xs (i + 2)) = some (r, ms'))
    (kk : ∀ (H : Heap) (locs : List Loc) (ls : Array Slot), IW g (fun q => s.heap.size ≤ q) s.heap (wCX g (wM g am ms') ad cs') H locs → lv_has ls 4 [(0, .ref b), (1, .ref (ad 0)), (2, .ref (am 0)), (3, .int (nI i))] → WL p l e s m b below meth c H locs (F0 m 1453 ls [])) : WL p l e s m b below meth c H locs (F0 m 309 ls []) := by
  obtain ⟨hx, hb, hml, hown, hts⟩ := id X.1.1
  refine lv_aload_n hx hb dL_law_309 rfl (lv_at hl 1 rfl) ?_
  refine lv_aload_n hx hb dL_law_310 rfl (lv_at hl 0 rfl) ?_
  refine lv_iload_n hx hb dL_law_311 rfl (lv_at hl 3 rfl) ?_
  refine lv_iconst (v := 1) hx hb dL_law_312 (by decide) ?_
  refine lv_iadd hx hb dL_law_313 ?_
  refine l_ld (i := i) (j := 1) X hI (by omega) (nI_add i 1) dL_law_314 ?_
  refine lv_aload_n hx hb dL_law_315 rfl (lv_at hl 0 rfl) ?_
  refine lv_iload_n hx hb dL_law_316 rfl (lv_at hl 3 rfl) ?_
  refine lv_iconst (v := 2) hx hb dL_law_317 (by decide) ?_
  refine lv_iadd hx hb dL_law_318 ?_
  refine l_ld (i := i) (j := 2) X hI (by omega) (nI_add i 2) dL_law_319 ?_
  refine l_I (rest := []) X hI (c_X5_of l g (wM g am ms) ad N (xs (i + 1)) (xs (i + 2)) cs h1) (cwV 2 hts gL_law_X5_of rfl rfl rfl hv_X5_of ⟨Nat.le_of_ble_eq_true rfl, Nat.le_of_ble_eq_true rfl⟩) (w_recv X.1 hI 0 at_C rfl) rfl hl.1 rfl (Nat.le_of_ble_eq_true rfl) dL_law_320 (fun H locs hI => ?_)
  refine lv_aload_n hx hb dL_law_323 rfl (lv_at hl 2 rfl) ?_
  refine lv_aload_n hx hb dL_law_324 rfl (lv_at hl 0 rfl) ?_
  refine lv_iload_n hx hb dL_law_325 rfl (lv_at hl 3 rfl) ?_
  refine lv_iconst (v := 1) hx hb dL_law_326 (by decide) ?_
  refine lv_iadd hx hb dL_law_327 ?_
  refine l_ld (i := i) (j := 1) X hI (by omega) (nI_add i 1) dL_law_328 ?_
  refine lv_aload_n hx hb dL_law_329 rfl (lv_at hl 0 rfl) ?_
  refine lv_iload_n hx hb dL_law_330 rfl (lv_at hl 3 rfl) ?_
  refine lv_iconst (v := 2) hx hb dL_law_331 (by decide) ?_
  refine lv_iadd hx hb dL_law_332 ?_
  refine l_ld (i := i) (j := 2) X hI (by omega) (nI_add i 2) dL_law_333 ?_
  have hI : IW g (fun q => s.heap.size ≤ q) s.heap (wMX g (wC g ad cs') am ms) H locs := hI
  refine l_I (rest := [.int r]) X hI (c_X6_of l g (wC g ad cs') am N (xs (i + 1)) (xs (i + 2)) ms h2) (cwV 2 hts gL_law_X6_of rfl rfl rfl hv_X6_of ⟨Nat.le_of_ble_eq_true rfl, Nat.le_of_ble_eq_true rfl⟩) (w_recv X.1 hI (wC g ad cs').length wM_ob rfl) rfl hl.1 rfl (Nat.le_of_ble_eq_true rfl) dL_law_334 (fun H locs hI => ?_)
  have hI : IW g (fun q => s.heap.size ≤ q) s.heap (wCX g (wM g am ms') ad cs') H locs := hI
  exact lv_icmp_eq (tgt := 1453) hx hb dL_law_337 (by decide) (fun _ => kk H locs ls hI hl) (fun cz => absurd rfl cz)
set_option maxHeartbeats 4000000 in
set_option maxRecDepth 100000 in
theorem lc_4 {p : Program} {l : Launch} {e : Env} {s : State} {m : MethodId} {below : List Frame} {meth : Method} {c : Code} {H : Heap} {locs : List Loc} {b L i : Nat} {xs : Nat → Int32} {ls : Array Slot} {g : GP} {ad am : Nat → Nat} (N : Nat) {cs cs' ms ms' : St} {r : Int32} (X : LCx p s m c b L xs g) (hI : IW g (fun q => s.heap.size ≤ q) s.heap (wCX g (wM g am ms) ad cs) H locs) (hl : lv_has ls 4 [(0, .ref b), (1, .ref (ad 0)), (2, .ref (am 0)), (3, .int (nI i))]) (hi : i + 5 < L) (h1 : f_X5_span cs (xs (i + 1)) (xs (i + 2)) (xs (i + 3)) = some (r, cs')) (h2 : f_X6_span ms (xs (i + 1)) (xs (i + 2)) (xs (i + 3)) = some (r, ms'))
    (kk : ∀ (H : Heap) (locs : List Loc) (ls : Array Slot), IW g (fun q => s.heap.size ≤ q) s.heap (wCX g (wM g am ms') ad cs') H locs → lv_has ls 4 [(0, .ref b), (1, .ref (ad 0)), (2, .ref (am 0)), (3, .int (nI i))] → WL p l e s m b below meth c H locs (F0 m 1453 ls [])) : WL p l e s m b below meth c H locs (F0 m 342 ls []) := by
  obtain ⟨hx, hb, hml, hown, hts⟩ := id X.1.1
  refine lv_aload_n hx hb dL_law_342 rfl (lv_at hl 1 rfl) ?_
  refine lv_aload_n hx hb dL_law_343 rfl (lv_at hl 0 rfl) ?_
  refine lv_iload_n hx hb dL_law_344 rfl (lv_at hl 3 rfl) ?_
  refine lv_iconst (v := 1) hx hb dL_law_345 (by decide) ?_
  refine lv_iadd hx hb dL_law_346 ?_
  refine l_ld (i := i) (j := 1) X hI (by omega) (nI_add i 1) dL_law_347 ?_
  refine lv_aload_n hx hb dL_law_348 rfl (lv_at hl 0 rfl) ?_
  refine lv_iload_n hx hb dL_law_349 rfl (lv_at hl 3 rfl) ?_
  refine lv_iconst (v := 2) hx hb dL_law_350 (by decide) ?_
  refine lv_iadd hx hb dL_law_351 ?_
  refine l_ld (i := i) (j := 2) X hI (by omega) (nI_add i 2) dL_law_352 ?_
  refine lv_aload_n hx hb dL_law_353 rfl (lv_at hl 0 rfl) ?_
  refine lv_iload_n hx hb dL_law_354 rfl (lv_at hl 3 rfl) ?_
  refine lv_iconst (v := 3) hx hb dL_law_355 (by decide) ?_
  refine lv_iadd hx hb dL_law_356 ?_
  refine l_ld (i := i) (j := 3) X hI (by omega) (nI_add i 3) dL_law_357 ?_
  refine l_I (rest := []) X hI (c_X5_span l g (wM g am ms) ad (xs (i + 1)) (xs (i + 2)) (xs (i + 3)) cs h1) (cwV 3 hts gL_law_X5_span rfl rfl rfl hv_X5_span ⟨Nat.le_of_ble_eq_true rfl, Nat.le_of_ble_eq_true rfl⟩) (w_recv X.1 hI 0 at_C rfl) rfl hl.1 rfl (Nat.le_of_ble_eq_true rfl) dL_law_358 (fun H locs hI => ?_)
  refine lv_aload_n hx hb dL_law_361 rfl (lv_at hl 2 rfl) ?_
  refine lv_aload_n hx hb dL_law_362 rfl (lv_at hl 0 rfl) ?_
  refine lv_iload_n hx hb dL_law_363 rfl (lv_at hl 3 rfl) ?_
  refine lv_iconst (v := 1) hx hb dL_law_364 (by decide) ?_
  refine lv_iadd hx hb dL_law_365 ?_
  refine l_ld (i := i) (j := 1) X hI (by omega) (nI_add i 1) dL_law_366 ?_
  refine lv_aload_n hx hb dL_law_367 rfl (lv_at hl 0 rfl) ?_
  refine lv_iload_n hx hb dL_law_368 rfl (lv_at hl 3 rfl) ?_
  refine lv_iconst (v := 2) hx hb dL_law_369 (by decide) ?_
  refine lv_iadd hx hb dL_law_370 ?_
  refine l_ld (i := i) (j := 2) X hI (by omega) (nI_add i 2) dL_law_371 ?_
  refine lv_aload_n hx hb dL_law_372 rfl (lv_at hl 0 rfl) ?_
  refine lv_iload_n hx hb dL_law_373 rfl (lv_at hl 3 rfl) ?_
  refine lv_iconst (v := 3) hx hb dL_law_374 (by decide) ?_
  refine lv_iadd hx hb dL_law_375 ?_
  refine l_ld (i := i) (j := 3) X hI (by omega) (nI_add i 3) dL_law_376 ?_
  have hI : IW g (fun q => s.heap.size ≤ q) s.heap (wMX g (wC g ad cs') am ms) H locs := hI
  refine l_I (rest := [.int r]) X hI (c_X6_span l g (wC g ad cs') am (xs (i + 1)) (xs (i + 2)) (xs (i + 3)) ms h2) (cwV 3 hts gL_law_X6_span rfl rfl rfl hv_X6_span ⟨Nat.le_of_ble_eq_true rfl, Nat.le_of_ble_eq_true rfl⟩) (w_recv X.1 hI (wC g ad cs').length wM_ob rfl) rfl hl.1 rfl (Nat.le_of_ble_eq_true rfl) dL_law_377 (fun H locs hI => ?_)
  have hI : IW g (fun q => s.heap.size ≤ q) s.heap (wCX g (wM g am ms') ad cs') H locs := hI
  exact lv_icmp_eq (tgt := 1453) hx hb dL_law_380 (by decide) (fun _ => kk H locs ls hI hl) (fun cz => absurd rfl cz)
set_option maxHeartbeats 4000000 in
set_option maxRecDepth 100000 in
theorem lc_5 {p : Program} {l : Launch} {e : Env} {s : State} {m : MethodId} {below : List Frame} {meth : Method} {c : Code} {H : Heap} {locs : List Loc} {b L i : Nat} {xs : Nat → Int32} {ls : Array Slot} {g : GP} {ad am : Nat → Nat} (N : Nat) {cs cs' ms ms' : St} {r : Int32} (X : LCx p s m c b L xs g) (hI : IW g (fun q => s.heap.size ≤ q) s.heap (wCX g (wM g am ms) ad cs) H locs) (hl : lv_has ls 4 [(0, .ref b), (1, .ref (ad 0)), (2, .ref (am 0)), (3, .int (nI i))]) (hi : i + 5 < L) (h1 : f_X5_coin N cs (xs (i + 1)) (xs (i + 2)) = some (r, cs')) (h2 : f_X6_coin ms (xs (i + 1)) (xs (i + 2)) = some (r, ms'))
    (kk : ∀ (H : Heap) (locs : List Loc) (ls : Array Slot), IW g (fun q => s.heap.size ≤ q) s.heap (wCX g (wM g am ms') ad cs') H locs → lv_has ls 4 [(0, .ref b), (1, .ref (ad 0)), (2, .ref (am 0)), (3, .int (nI i))] → WL p l e s m b below meth c H locs (F0 m 1453 ls [])) : WL p l e s m b below meth c H locs (F0 m 385 ls []) := by
  obtain ⟨hx, hb, hml, hown, hts⟩ := id X.1.1
  refine lv_aload_n hx hb dL_law_385 rfl (lv_at hl 1 rfl) ?_
  refine lv_aload_n hx hb dL_law_386 rfl (lv_at hl 0 rfl) ?_
  refine lv_iload_n hx hb dL_law_387 rfl (lv_at hl 3 rfl) ?_
  refine lv_iconst (v := 1) hx hb dL_law_388 (by decide) ?_
  refine lv_iadd hx hb dL_law_389 ?_
  refine l_ld (i := i) (j := 1) X hI (by omega) (nI_add i 1) dL_law_390 ?_
  refine lv_aload_n hx hb dL_law_391 rfl (lv_at hl 0 rfl) ?_
  refine lv_iload_n hx hb dL_law_392 rfl (lv_at hl 3 rfl) ?_
  refine lv_iconst (v := 2) hx hb dL_law_393 (by decide) ?_
  refine lv_iadd hx hb dL_law_394 ?_
  refine l_ld (i := i) (j := 2) X hI (by omega) (nI_add i 2) dL_law_395 ?_
  refine l_I (rest := []) X hI (c_X5_coin l g (wM g am ms) ad N (xs (i + 1)) (xs (i + 2)) cs h1) (cwV 2 hts gL_law_X5_coin rfl rfl rfl hv_X5_coin ⟨Nat.le_of_ble_eq_true rfl, Nat.le_of_ble_eq_true rfl⟩) (w_recv X.1 hI 0 at_C rfl) rfl hl.1 rfl (Nat.le_of_ble_eq_true rfl) dL_law_396 (fun H locs hI => ?_)
  refine lv_aload_n hx hb dL_law_399 rfl (lv_at hl 2 rfl) ?_
  refine lv_aload_n hx hb dL_law_400 rfl (lv_at hl 0 rfl) ?_
  refine lv_iload_n hx hb dL_law_401 rfl (lv_at hl 3 rfl) ?_
  refine lv_iconst (v := 1) hx hb dL_law_402 (by decide) ?_
  refine lv_iadd hx hb dL_law_403 ?_
  refine l_ld (i := i) (j := 1) X hI (by omega) (nI_add i 1) dL_law_404 ?_
  refine lv_aload_n hx hb dL_law_405 rfl (lv_at hl 0 rfl) ?_
  refine lv_iload_n hx hb dL_law_406 rfl (lv_at hl 3 rfl) ?_
  refine lv_iconst (v := 2) hx hb dL_law_407 (by decide) ?_
  refine lv_iadd hx hb dL_law_408 ?_
  refine l_ld (i := i) (j := 2) X hI (by omega) (nI_add i 2) dL_law_409 ?_
  have hI : IW g (fun q => s.heap.size ≤ q) s.heap (wMX g (wC g ad cs') am ms) H locs := hI
  refine l_I (rest := [.int r]) X hI (c_X6_coin l g (wC g ad cs') am (xs (i + 1)) (xs (i + 2)) ms h2) (cwV 2 hts gL_law_X6_coin rfl rfl rfl hv_X6_coin ⟨Nat.le_of_ble_eq_true rfl, Nat.le_of_ble_eq_true rfl⟩) (w_recv X.1 hI (wC g ad cs').length wM_ob rfl) rfl hl.1 rfl (Nat.le_of_ble_eq_true rfl) dL_law_410 (fun H locs hI => ?_)
  have hI : IW g (fun q => s.heap.size ≤ q) s.heap (wCX g (wM g am ms') ad cs') H locs := hI
  exact lv_icmp_eq (tgt := 1453) hx hb dL_law_413 (by decide) (fun _ => kk H locs ls hI hl) (fun cz => absurd rfl cz)
set_option maxHeartbeats 4000000 in
set_option maxRecDepth 100000 in
theorem lc_6 {p : Program} {l : Launch} {e : Env} {s : State} {m : MethodId} {below : List Frame} {meth : Method} {c : Code} {H : Heap} {locs : List Loc} {b L i : Nat} {xs : Nat → Int32} {ls : Array Slot} {g : GP} {ad am : Nat → Nat} (N : Nat) {cs cs' ms ms' : St} {r : Int32} (X : LCx p s m c b L xs g) (hI : IW g (fun q => s.heap.size ≤ q) s.heap (wCX g (wM g am ms) ad cs) H locs) (hl : lv_has ls 4 [(0, .ref b), (1, .ref (ad 0)), (2, .ref (am 0)), (3, .int (nI i))]) (hi : i + 5 < L) (h1 : f_X5_cut N cs (xs (i + 1)) (xs (i + 2)) (bz (xs (i + 3))) = some (r, cs')) (h2 : f_X6_cut N ms (xs (i + 1)) (xs (i + 2)) (bz (xs (i + 3))) = some (r, ms'))
    (kk : ∀ (H : Heap) (locs : List Loc) (ls : Array Slot), IW g (fun q => s.heap.size ≤ q) s.heap (wCX g (wM g am ms') ad cs') H locs → lv_has ls 4 [(0, .ref b), (1, .ref (ad 0)), (2, .ref (am 0)), (3, .int (nI i))] → WL p l e s m b below meth c H locs (F0 m 1453 ls [])) : WL p l e s m b below meth c H locs (F0 m 418 ls []) := by
  obtain ⟨hx, hb, hml, hown, hts⟩ := id X.1.1
  by_cases cb3 : xs (i + 3) = 0
  · rw [bz_0 cb3] at h1 h2
    refine lv_aload_n hx hb dL_law_418 rfl (lv_at hl 1 rfl) ?_
    refine lv_aload_n hx hb dL_law_419 rfl (lv_at hl 0 rfl) ?_
    refine lv_iload_n hx hb dL_law_420 rfl (lv_at hl 3 rfl) ?_
    refine lv_iconst (v := 1) hx hb dL_law_421 (by decide) ?_
    refine lv_iadd hx hb dL_law_422 ?_
    refine l_ld (i := i) (j := 1) X hI (by omega) (nI_add i 1) dL_law_423 ?_
    refine lv_aload_n hx hb dL_law_424 rfl (lv_at hl 0 rfl) ?_
    refine lv_iload_n hx hb dL_law_425 rfl (lv_at hl 3 rfl) ?_
    refine lv_iconst (v := 2) hx hb dL_law_426 (by decide) ?_
    refine lv_iadd hx hb dL_law_427 ?_
    refine l_ld (i := i) (j := 2) X hI (by omega) (nI_add i 2) dL_law_428 ?_
    refine lv_aload_n hx hb dL_law_429 rfl (lv_at hl 0 rfl) ?_
    refine lv_iload_n hx hb dL_law_430 rfl (lv_at hl 3 rfl) ?_
    refine lv_iconst (v := 3) hx hb dL_law_431 (by decide) ?_
    refine lv_iadd hx hb dL_law_432 ?_
    refine l_ld (i := i) (j := 3) X hI (by omega) (nI_add i 3) dL_law_433 ?_
    refine lv_if_eq (tgt := 441) hx hb dL_law_434 (by decide) (fun _ => ?_) (fun cz => absurd cb3 cz)
    refine lv_iconst (v := 0) hx hb dL_law_441 (by decide) ?_
    refine l_I (rest := []) X hI (c_X5_cut l g (wM g am ms) ad N (xs (i + 1)) (xs (i + 2)) false cs h1) (cwV 3 hts gL_law_X5_cut rfl rfl rfl hv_X5_cut ⟨Nat.le_of_ble_eq_true rfl, Nat.le_of_ble_eq_true rfl⟩) (w_recv X.1 hI 0 at_C rfl) rfl hl.1 rfl (Nat.le_of_ble_eq_true rfl) dL_law_442 (fun H locs hI => ?_)
    refine lv_aload_n hx hb dL_law_445 rfl (lv_at hl 2 rfl) ?_
    refine lv_aload_n hx hb dL_law_446 rfl (lv_at hl 0 rfl) ?_
    refine lv_iload_n hx hb dL_law_447 rfl (lv_at hl 3 rfl) ?_
    refine lv_iconst (v := 1) hx hb dL_law_448 (by decide) ?_
    refine lv_iadd hx hb dL_law_449 ?_
    refine l_ld (i := i) (j := 1) X hI (by omega) (nI_add i 1) dL_law_450 ?_
    refine lv_aload_n hx hb dL_law_451 rfl (lv_at hl 0 rfl) ?_
    refine lv_iload_n hx hb dL_law_452 rfl (lv_at hl 3 rfl) ?_
    refine lv_iconst (v := 2) hx hb dL_law_453 (by decide) ?_
    refine lv_iadd hx hb dL_law_454 ?_
    refine l_ld (i := i) (j := 2) X hI (by omega) (nI_add i 2) dL_law_455 ?_
    refine lv_aload_n hx hb dL_law_456 rfl (lv_at hl 0 rfl) ?_
    refine lv_iload_n hx hb dL_law_457 rfl (lv_at hl 3 rfl) ?_
    refine lv_iconst (v := 3) hx hb dL_law_458 (by decide) ?_
    refine lv_iadd hx hb dL_law_459 ?_
    refine l_ld (i := i) (j := 3) X hI (by omega) (nI_add i 3) dL_law_460 ?_
    refine lv_if_eq (tgt := 468) hx hb dL_law_461 (by decide) (fun _ => ?_) (fun cz => absurd cb3 cz)
    refine lv_iconst (v := 0) hx hb dL_law_468 (by decide) ?_
    have hI : IW g (fun q => s.heap.size ≤ q) s.heap (wMX g (wC g ad cs') am ms) H locs := hI
    refine l_I (rest := [.int r]) X hI (c_X6_cut l g (wC g ad cs') am N (xs (i + 1)) (xs (i + 2)) false ms h2) (cwV 3 hts gL_law_X6_cut rfl rfl rfl hv_X6_cut ⟨Nat.le_of_ble_eq_true rfl, Nat.le_of_ble_eq_true rfl⟩) (w_recv X.1 hI (wC g ad cs').length wM_ob rfl) rfl hl.1 rfl (Nat.le_of_ble_eq_true rfl) dL_law_469 (fun H locs hI => ?_)
    have hI : IW g (fun q => s.heap.size ≤ q) s.heap (wCX g (wM g am ms') ad cs') H locs := hI
    exact lv_icmp_eq (tgt := 1453) hx hb dL_law_472 (by decide) (fun _ => kk H locs ls hI hl) (fun cz => absurd rfl cz)
  · rw [bz_1 cb3] at h1 h2
    refine lv_aload_n hx hb dL_law_418 rfl (lv_at hl 1 rfl) ?_
    refine lv_aload_n hx hb dL_law_419 rfl (lv_at hl 0 rfl) ?_
    refine lv_iload_n hx hb dL_law_420 rfl (lv_at hl 3 rfl) ?_
    refine lv_iconst (v := 1) hx hb dL_law_421 (by decide) ?_
    refine lv_iadd hx hb dL_law_422 ?_
    refine l_ld (i := i) (j := 1) X hI (by omega) (nI_add i 1) dL_law_423 ?_
    refine lv_aload_n hx hb dL_law_424 rfl (lv_at hl 0 rfl) ?_
    refine lv_iload_n hx hb dL_law_425 rfl (lv_at hl 3 rfl) ?_
    refine lv_iconst (v := 2) hx hb dL_law_426 (by decide) ?_
    refine lv_iadd hx hb dL_law_427 ?_
    refine l_ld (i := i) (j := 2) X hI (by omega) (nI_add i 2) dL_law_428 ?_
    refine lv_aload_n hx hb dL_law_429 rfl (lv_at hl 0 rfl) ?_
    refine lv_iload_n hx hb dL_law_430 rfl (lv_at hl 3 rfl) ?_
    refine lv_iconst (v := 3) hx hb dL_law_431 (by decide) ?_
    refine lv_iadd hx hb dL_law_432 ?_
    refine l_ld (i := i) (j := 3) X hI (by omega) (nI_add i 3) dL_law_433 ?_
    refine lv_if_eq (tgt := 441) hx hb dL_law_434 (by decide) (fun cz => absurd cz cb3) (fun _ => ?_)
    refine lv_iconst (v := 1) hx hb dL_law_437 (by decide) ?_
    refine lv_goto (tgt := 442) hx hb dL_law_438 (by decide) ?_
    refine l_I (rest := []) X hI (c_X5_cut l g (wM g am ms) ad N (xs (i + 1)) (xs (i + 2)) true cs h1) (cwV 3 hts gL_law_X5_cut rfl rfl rfl hv_X5_cut ⟨Nat.le_of_ble_eq_true rfl, Nat.le_of_ble_eq_true rfl⟩) (w_recv X.1 hI 0 at_C rfl) rfl hl.1 rfl (Nat.le_of_ble_eq_true rfl) dL_law_442 (fun H locs hI => ?_)
    refine lv_aload_n hx hb dL_law_445 rfl (lv_at hl 2 rfl) ?_
    refine lv_aload_n hx hb dL_law_446 rfl (lv_at hl 0 rfl) ?_
    refine lv_iload_n hx hb dL_law_447 rfl (lv_at hl 3 rfl) ?_
    refine lv_iconst (v := 1) hx hb dL_law_448 (by decide) ?_
    refine lv_iadd hx hb dL_law_449 ?_
    refine l_ld (i := i) (j := 1) X hI (by omega) (nI_add i 1) dL_law_450 ?_
    refine lv_aload_n hx hb dL_law_451 rfl (lv_at hl 0 rfl) ?_
    refine lv_iload_n hx hb dL_law_452 rfl (lv_at hl 3 rfl) ?_
    refine lv_iconst (v := 2) hx hb dL_law_453 (by decide) ?_
    refine lv_iadd hx hb dL_law_454 ?_
    refine l_ld (i := i) (j := 2) X hI (by omega) (nI_add i 2) dL_law_455 ?_
    refine lv_aload_n hx hb dL_law_456 rfl (lv_at hl 0 rfl) ?_
    refine lv_iload_n hx hb dL_law_457 rfl (lv_at hl 3 rfl) ?_
    refine lv_iconst (v := 3) hx hb dL_law_458 (by decide) ?_
    refine lv_iadd hx hb dL_law_459 ?_
    refine l_ld (i := i) (j := 3) X hI (by omega) (nI_add i 3) dL_law_460 ?_
    refine lv_if_eq (tgt := 468) hx hb dL_law_461 (by decide) (fun cz => absurd cz cb3) (fun _ => ?_)
    refine lv_iconst (v := 1) hx hb dL_law_464 (by decide) ?_
    refine lv_goto (tgt := 469) hx hb dL_law_465 (by decide) ?_
    have hI : IW g (fun q => s.heap.size ≤ q) s.heap (wMX g (wC g ad cs') am ms) H locs := hI
    refine l_I (rest := [.int r]) X hI (c_X6_cut l g (wC g ad cs') am N (xs (i + 1)) (xs (i + 2)) true ms h2) (cwV 3 hts gL_law_X6_cut rfl rfl rfl hv_X6_cut ⟨Nat.le_of_ble_eq_true rfl, Nat.le_of_ble_eq_true rfl⟩) (w_recv X.1 hI (wC g ad cs').length wM_ob rfl) rfl hl.1 rfl (Nat.le_of_ble_eq_true rfl) dL_law_469 (fun H locs hI => ?_)
    have hI : IW g (fun q => s.heap.size ≤ q) s.heap (wCX g (wM g am ms') ad cs') H locs := hI
    exact lv_icmp_eq (tgt := 1453) hx hb dL_law_472 (by decide) (fun _ => kk H locs ls hI hl) (fun cz => absurd rfl cz)
set_option maxHeartbeats 4000000 in
set_option maxRecDepth 100000 in
theorem lc_7 {p : Program} {l : Launch} {e : Env} {s : State} {m : MethodId} {below : List Frame} {meth : Method} {c : Code} {H : Heap} {locs : List Loc} {b L i : Nat} {xs : Nat → Int32} {ls : Array Slot} {g : GP} {ad am : Nat → Nat} (N : Nat) {cs cs' ms ms' : St} {r : Int32} (X : LCx p s m c b L xs g) (hI : IW g (fun q => s.heap.size ≤ q) s.heap (wCX g (wM g am ms) ad cs) H locs) (hl : lv_has ls 4 [(0, .ref b), (1, .ref (ad 0)), (2, .ref (am 0)), (3, .int (nI i))]) (hi : i + 5 < L) (h1 : f_X5_later N cs (xs (i + 1)) (xs (i + 2)) = some (r, cs')) (h2 : f_X6_later N ms (xs (i + 1)) (xs (i + 2)) = some (r, ms'))
    (kk : ∀ (H : Heap) (locs : List Loc) (ls : Array Slot), IW g (fun q => s.heap.size ≤ q) s.heap (wCX g (wM g am ms') ad cs') H locs → lv_has ls 4 [(0, .ref b), (1, .ref (ad 0)), (2, .ref (am 0)), (3, .int (nI i))] → WL p l e s m b below meth c H locs (F0 m 1453 ls [])) : WL p l e s m b below meth c H locs (F0 m 477 ls []) := by
  obtain ⟨hx, hb, hml, hown, hts⟩ := id X.1.1
  refine lv_aload_n hx hb dL_law_477 rfl (lv_at hl 1 rfl) ?_
  refine lv_aload_n hx hb dL_law_478 rfl (lv_at hl 0 rfl) ?_
  refine lv_iload_n hx hb dL_law_479 rfl (lv_at hl 3 rfl) ?_
  refine lv_iconst (v := 1) hx hb dL_law_480 (by decide) ?_
  refine lv_iadd hx hb dL_law_481 ?_
  refine l_ld (i := i) (j := 1) X hI (by omega) (nI_add i 1) dL_law_482 ?_
  refine lv_aload_n hx hb dL_law_483 rfl (lv_at hl 0 rfl) ?_
  refine lv_iload_n hx hb dL_law_484 rfl (lv_at hl 3 rfl) ?_
  refine lv_iconst (v := 2) hx hb dL_law_485 (by decide) ?_
  refine lv_iadd hx hb dL_law_486 ?_
  refine l_ld (i := i) (j := 2) X hI (by omega) (nI_add i 2) dL_law_487 ?_
  refine l_I (rest := []) X hI (c_X5_later l g (wM g am ms) ad N (xs (i + 1)) (xs (i + 2)) cs h1) (cwV 2 hts gL_law_X5_later rfl rfl rfl hv_X5_later ⟨Nat.le_of_ble_eq_true rfl, Nat.le_of_ble_eq_true rfl⟩) (w_recv X.1 hI 0 at_C rfl) rfl hl.1 rfl (Nat.le_of_ble_eq_true rfl) dL_law_488 (fun H locs hI => ?_)
  refine lv_aload_n hx hb dL_law_491 rfl (lv_at hl 2 rfl) ?_
  refine lv_aload_n hx hb dL_law_492 rfl (lv_at hl 0 rfl) ?_
  refine lv_iload_n hx hb dL_law_493 rfl (lv_at hl 3 rfl) ?_
  refine lv_iconst (v := 1) hx hb dL_law_494 (by decide) ?_
  refine lv_iadd hx hb dL_law_495 ?_
  refine l_ld (i := i) (j := 1) X hI (by omega) (nI_add i 1) dL_law_496 ?_
  refine lv_aload_n hx hb dL_law_497 rfl (lv_at hl 0 rfl) ?_
  refine lv_iload_n hx hb dL_law_498 rfl (lv_at hl 3 rfl) ?_
  refine lv_iconst (v := 2) hx hb dL_law_499 (by decide) ?_
  refine lv_iadd hx hb dL_law_500 ?_
  refine l_ld (i := i) (j := 2) X hI (by omega) (nI_add i 2) dL_law_501 ?_
  have hI : IW g (fun q => s.heap.size ≤ q) s.heap (wMX g (wC g ad cs') am ms) H locs := hI
  refine l_I (rest := [.int r]) X hI (c_X6_later l g (wC g ad cs') am N (xs (i + 1)) (xs (i + 2)) ms h2) (cwV 2 hts gL_law_X6_later rfl rfl rfl hv_X6_later ⟨Nat.le_of_ble_eq_true rfl, Nat.le_of_ble_eq_true rfl⟩) (w_recv X.1 hI (wC g ad cs').length wM_ob rfl) rfl hl.1 rfl (Nat.le_of_ble_eq_true rfl) dL_law_502 (fun H locs hI => ?_)
  have hI : IW g (fun q => s.heap.size ≤ q) s.heap (wCX g (wM g am ms') ad cs') H locs := hI
  exact lv_icmp_eq (tgt := 1453) hx hb dL_law_505 (by decide) (fun _ => kk H locs ls hI hl) (fun cz => absurd rfl cz)
set_option maxHeartbeats 4000000 in
set_option maxRecDepth 100000 in
theorem lc_8 {p : Program} {l : Launch} {e : Env} {s : State} {m : MethodId} {below : List Frame} {meth : Method} {c : Code} {H : Heap} {locs : List Loc} {b L i : Nat} {xs : Nat → Int32} {ls : Array Slot} {g : GP} {ad am : Nat → Nat} (N : Nat) {cs cs' ms ms' : St} {r : Int32} (X : LCx p s m c b L xs g) (hI : IW g (fun q => s.heap.size ≤ q) s.heap (wCX g (wM g am ms) ad cs) H locs) (hl : lv_has ls 4 [(0, .ref b), (1, .ref (ad 0)), (2, .ref (am 0)), (3, .int (nI i))]) (hi : i + 5 < L) (h1 : f_X5_fill N cs = some (r, cs')) (h2 : f_X6_fill N ms = some (r, ms'))
    (kk : ∀ (H : Heap) (locs : List Loc) (ls : Array Slot), IW g (fun q => s.heap.size ≤ q) s.heap (wCX g (wM g am ms') ad cs') H locs → lv_has ls 4 [(0, .ref b), (1, .ref (ad 0)), (2, .ref (am 0)), (3, .int (nI i))] → WL p l e s m b below meth c H locs (F0 m 1453 ls [])) : WL p l e s m b below meth c H locs (F0 m 510 ls []) := by
  obtain ⟨hx, hb, hml, hown, hts⟩ := id X.1.1
  refine lv_aload_n hx hb dL_law_510 rfl (lv_at hl 1 rfl) ?_
  refine l_I (rest := []) X hI (c_X5_fill l g (wM g am ms) ad N cs h1) (cwV 0 hts gL_law_X5_fill rfl rfl rfl hv_X5_fill ⟨Nat.le_of_ble_eq_true rfl, Nat.le_of_ble_eq_true rfl⟩) (w_recv X.1 hI 0 at_C rfl) rfl hl.1 rfl (Nat.le_of_ble_eq_true rfl) dL_law_511 (fun H locs hI => ?_)
  refine lv_aload_n hx hb dL_law_514 rfl (lv_at hl 2 rfl) ?_
  have hI : IW g (fun q => s.heap.size ≤ q) s.heap (wMX g (wC g ad cs') am ms) H locs := hI
  refine l_I (rest := [.int r]) X hI (c_X6_fill l g (wC g ad cs') am N ms h2) (cwV 0 hts gL_law_X6_fill rfl rfl rfl hv_X6_fill ⟨Nat.le_of_ble_eq_true rfl, Nat.le_of_ble_eq_true rfl⟩) (w_recv X.1 hI (wC g ad cs').length wM_ob rfl) rfl hl.1 rfl (Nat.le_of_ble_eq_true rfl) dL_law_515 (fun H locs hI => ?_)
  have hI : IW g (fun q => s.heap.size ≤ q) s.heap (wCX g (wM g am ms') ad cs') H locs := hI
  exact lv_icmp_eq (tgt := 1453) hx hb dL_law_518 (by decide) (fun _ => kk H locs ls hI hl) (fun cz => absurd rfl cz)
set_option maxHeartbeats 4000000 in
set_option maxRecDepth 100000 in
theorem lc_9 {p : Program} {l : Launch} {e : Env} {s : State} {m : MethodId} {below : List Frame} {meth : Method} {c : Code} {H : Heap} {locs : List Loc} {b L i : Nat} {xs : Nat → Int32} {ls : Array Slot} {g : GP} {ad am : Nat → Nat} (N : Nat) {cs cs' ms ms' : St} {r : Int32} (X : LCx p s m c b L xs g) (hI : IW g (fun q => s.heap.size ≤ q) s.heap (wCX g (wM g am ms) ad cs) H locs) (hl : lv_has ls 4 [(0, .ref b), (1, .ref (ad 0)), (2, .ref (am 0)), (3, .int (nI i))]) (hi : i + 5 < L) (h1 : f_X5_sheet N cs (xs (i + 1)) (xs (i + 2)) (xs (i + 3)) = some (r, cs')) (h2 : f_X6_sheet N ms (xs (i + 1)) (xs (i + 2)) (xs (i + 3)) = some (r, ms'))
    (kk : ∀ (H : Heap) (locs : List Loc) (ls : Array Slot), IW g (fun q => s.heap.size ≤ q) s.heap (wCX g (wM g am ms') ad cs') H locs → lv_has ls 4 [(0, .ref b), (1, .ref (ad 0)), (2, .ref (am 0)), (3, .int (nI i))] → WL p l e s m b below meth c H locs (F0 m 1453 ls [])) : WL p l e s m b below meth c H locs (F0 m 523 ls []) := by
  obtain ⟨hx, hb, hml, hown, hts⟩ := id X.1.1
  refine lv_aload_n hx hb dL_law_523 rfl (lv_at hl 1 rfl) ?_
  refine lv_aload_n hx hb dL_law_524 rfl (lv_at hl 0 rfl) ?_
  refine lv_iload_n hx hb dL_law_525 rfl (lv_at hl 3 rfl) ?_
  refine lv_iconst (v := 1) hx hb dL_law_526 (by decide) ?_
  refine lv_iadd hx hb dL_law_527 ?_
  refine l_ld (i := i) (j := 1) X hI (by omega) (nI_add i 1) dL_law_528 ?_
  refine lv_aload_n hx hb dL_law_529 rfl (lv_at hl 0 rfl) ?_
  refine lv_iload_n hx hb dL_law_530 rfl (lv_at hl 3 rfl) ?_
  refine lv_iconst (v := 2) hx hb dL_law_531 (by decide) ?_
  refine lv_iadd hx hb dL_law_532 ?_
  refine l_ld (i := i) (j := 2) X hI (by omega) (nI_add i 2) dL_law_533 ?_
  refine lv_aload_n hx hb dL_law_534 rfl (lv_at hl 0 rfl) ?_
  refine lv_iload_n hx hb dL_law_535 rfl (lv_at hl 3 rfl) ?_
  refine lv_iconst (v := 3) hx hb dL_law_536 (by decide) ?_
  refine lv_iadd hx hb dL_law_537 ?_
  refine l_ld (i := i) (j := 3) X hI (by omega) (nI_add i 3) dL_law_538 ?_
  refine l_I (rest := []) X hI (c_X5_sheet l g (wM g am ms) ad N (xs (i + 1)) (xs (i + 2)) (xs (i + 3)) cs h1) (cwV 3 hts gL_law_X5_sheet rfl rfl rfl hv_X5_sheet ⟨Nat.le_of_ble_eq_true rfl, Nat.le_of_ble_eq_true rfl⟩) (w_recv X.1 hI 0 at_C rfl) rfl hl.1 rfl (Nat.le_of_ble_eq_true rfl) dL_law_539 (fun H locs hI => ?_)
  refine lv_aload_n hx hb dL_law_542 rfl (lv_at hl 2 rfl) ?_
  refine lv_aload_n hx hb dL_law_543 rfl (lv_at hl 0 rfl) ?_
  refine lv_iload_n hx hb dL_law_544 rfl (lv_at hl 3 rfl) ?_
  refine lv_iconst (v := 1) hx hb dL_law_545 (by decide) ?_
  refine lv_iadd hx hb dL_law_546 ?_
  refine l_ld (i := i) (j := 1) X hI (by omega) (nI_add i 1) dL_law_547 ?_
  refine lv_aload_n hx hb dL_law_548 rfl (lv_at hl 0 rfl) ?_
  refine lv_iload_n hx hb dL_law_549 rfl (lv_at hl 3 rfl) ?_
  refine lv_iconst (v := 2) hx hb dL_law_550 (by decide) ?_
  refine lv_iadd hx hb dL_law_551 ?_
  refine l_ld (i := i) (j := 2) X hI (by omega) (nI_add i 2) dL_law_552 ?_
  refine lv_aload_n hx hb dL_law_553 rfl (lv_at hl 0 rfl) ?_
  refine lv_iload_n hx hb dL_law_554 rfl (lv_at hl 3 rfl) ?_
  refine lv_iconst (v := 3) hx hb dL_law_555 (by decide) ?_
  refine lv_iadd hx hb dL_law_556 ?_
  refine l_ld (i := i) (j := 3) X hI (by omega) (nI_add i 3) dL_law_557 ?_
  have hI : IW g (fun q => s.heap.size ≤ q) s.heap (wMX g (wC g ad cs') am ms) H locs := hI
  refine l_I (rest := [.int r]) X hI (c_X6_sheet l g (wC g ad cs') am N (xs (i + 1)) (xs (i + 2)) (xs (i + 3)) ms h2) (cwV 3 hts gL_law_X6_sheet rfl rfl rfl hv_X6_sheet ⟨Nat.le_of_ble_eq_true rfl, Nat.le_of_ble_eq_true rfl⟩) (w_recv X.1 hI (wC g ad cs').length wM_ob rfl) rfl hl.1 rfl (Nat.le_of_ble_eq_true rfl) dL_law_558 (fun H locs hI => ?_)
  have hI : IW g (fun q => s.heap.size ≤ q) s.heap (wCX g (wM g am ms') ad cs') H locs := hI
  exact lv_icmp_eq (tgt := 1453) hx hb dL_law_561 (by decide) (fun _ => kk H locs ls hI hl) (fun cz => absurd rfl cz)
