/-! X6_noOrder -/
def rmX6_noOrder : Room := { frames := 0, cells := 0, slots := 0, locals := 0 }
def f_X6_noOrder (st : St) : Int32 := if st 0 0 = 0 then -100006 else if st 0 0 ≤ 8 then 0 else -100008
set_option maxHeartbeats 4000000 in
set_option maxRecDepth 100000 in
theorem c_X6_noOrder (l : Launch) (g : GP) (X : va_W) (am : Nat → Nat)  (st : St) : MetI l yX6_noOrder wsX6_noOrder rmX6_noOrder g (wMX g X am) [.ref (am 0)] st (f_X6_noOrder st) st := by
  refine metI_of (cc := cX6_noOrder) (nL := 1) (ty := .int) (by decide) rfl (Nat.le_of_ble_eq_true rfl) rfl ?_
  intro p e s m below meth c Q A C hret H locs hI ls hl
  have C : Cx p s m _ c cX6_noOrder 1 wsX6_noOrder RX6 g A := C
  obtain ⟨hx, hb, hml, hown, hts⟩ := id C.1
  have hl : lv_has ls 1 [(0, .ref (am 0))] := hl
  have hinRX6 : ∀ w ∈ u_ws RX6 TX6 16, w ∈ wsX6_noOrder := by decide +kernel
  have lk9 := hts (.fieldLink RX6 9 "GraveRowsModel" "now" "[I") (by decide +kernel)
  have lc106 := hts (.constant RX6 106 (-100008)) (by decide +kernel)
  have lc83 := hts (.constant RX6 83 (-100006)) (by decide +kernel)
  generalize hgen : f_X6_noOrder st = r at hret
  have h := hgen
  rw [f_X6_noOrder] at h
  refine lv_aload_n hx hb dX6_noOrder_0 rfl (lv_at hl 0 rfl) ?_
  refine w_get (v := .ref (am 1)) C hinRX6 hI X.length wM_ob rfl 0 (by decide) lk9 rfl rfl dX6_noOrder_1 ?_
  refine lv_iconst (v := 0) hx hb dX6_noOrder_4 (by decide) ?_
  refine w_ldK C hI (X.length + (0 + 1)) (wM_ar (by decide)) 0 (by decide) (by decide) dX6_noOrder_5 ?_
  refine lv_if_ne (tgt := 14) hx hb dX6_noOrder_6 (by decide) (fun c_1 => ?_) (fun c_1 => ?_)
  · replace h := (if_neg c_1).symm.trans h
    refine lv_aload_n hx hb dX6_noOrder_14 rfl (lv_at hl 0 rfl) ?_
    refine w_get (v := .ref (am 1)) C hinRX6 hI X.length wM_ob rfl 0 (by decide) lk9 rfl rfl dX6_noOrder_15 ?_
    refine lv_iconst (v := 0) hx hb dX6_noOrder_18 (by decide) ?_
    refine w_ldK C hI (X.length + (0 + 1)) (wM_ar (by decide)) 0 (by decide) (by decide) dX6_noOrder_19 ?_
    refine lv_bipush (v := 8) hx hb dX6_noOrder_20 (by decide) ?_
    refine lv_icmp_le (tgt := 30) hx hb dX6_noOrder_22 (by decide) (fun c_2 => ?_) (fun c_2 => ?_)
    · replace h := (if_pos c_2).symm.trans h
      refine lv_iconst (v := 0) hx hb dX6_noOrder_30 (by decide) ?_
      subst h
      exact hret H locs _ ls hI dX6_noOrder_31
    · replace h := (if_neg c_2).symm.trans h
      refine lv_ldc (v := (-100008)) hx hb hown lc106 dX6_noOrder_25 ?_
      refine lv_goto (tgt := 31) hx hb dX6_noOrder_27 (by decide) ?_
      subst h
      exact hret H locs _ ls hI dX6_noOrder_31
  · replace h := (if_pos c_1).symm.trans h
    refine lv_ldc (v := (-100006)) hx hb hown lc83 dX6_noOrder_9 ?_
    refine lv_goto (tgt := 31) hx hb dX6_noOrder_11 (by decide) ?_
    subst h
    exact hret H locs _ ls hI dX6_noOrder_31
theorem hv_X6_noOrder : yX6_noOrder.cls = RX6 ∧ yX6_noOrder.cls ≠ "java/lang/invoke/MethodHandle" ∧ yX6_noOrder.cls ≠ "java/lang/invoke/VarHandle" ∧ (parseMethodDescriptor yX6_noOrder.desc).map (fun d => d.parameters.length) = some 0 := by decide +kernel
/-! X6_order -/
def rmX6_order : Room := { frames := 3, cells := 0, slots := 0, locals := 73 }
def f_X6_order (N : Nat) (st : St) : Option (Int32 × St) := bnd (f_X6_noOrder st) fun r_1 => if r_1 = 0 then bd1 (f_X6_search N st 4095) fun st_4 => some (st_4 10 2, st_4) else bnd (f_X6_noOrder st) fun r_5 => bd2 (f_X6_finding st r_5) fun r_7 st_8 => some (r_7, st_8)
set_option maxHeartbeats 4000000 in
set_option maxRecDepth 100000 in
theorem c_X6_order (l : Launch) (g : GP) (X : va_W) (am : Nat → Nat) (N : Nat)  (st : St) {r : Int32} {st' : St} (h : f_X6_order N st = some (r, st')) : MetI l yX6_order wsX6_order rmX6_order g (wMX g X am) [.ref (am 0)] st (r) st' := by
  refine metI_of (cc := cX6_order) (nL := 1) (ty := .int) (by decide) rfl (Nat.le_of_ble_eq_true rfl) rfl ?_
  intro p e s m below meth c Q A C hret H locs hI ls hl
  have C : Cx p s m _ c cX6_order 1 wsX6_order RX6 g A := C
  obtain ⟨hx, hb, hml, hown, hts⟩ := id C.1
  have hl : lv_has ls 1 [(0, .ref (am 0))] := hl
  have hinRX6 : ∀ w ∈ u_ws RX6 TX6 16, w ∈ wsX6_order := by decide +kernel
  have lk92 := hts (.fieldLink RX6 92 "GraveRowsModel" "least" "I") (by decide +kernel)
  rw [f_X6_order] at h
  refine lv_aload_n hx hb dX6_order_0 rfl (lv_at hl 0 rfl) ?_
  refine callV_I (rest := []) C hI (c_X6_noOrder l g X am st) (cwV 0 hts gX6_order_X6_noOrder rfl rfl rfl hv_X6_noOrder ⟨Nat.le_of_ble_eq_true rfl, Nat.le_of_ble_eq_true rfl⟩) (w_recv C hI X.length wM_ob rfl) rfl hl.1 rfl (Nat.le_of_ble_eq_true rfl) dX6_order_1 (fun H locs hI => ?_)
  refine gen_i h (fun r_1 h => ?_)
  refine lv_if_eq (tgt := 16) hx hb dX6_order_4 (by decide) (fun c_2 => ?_) (fun c_2 => ?_)
  · replace h := (if_pos c_2).symm.trans h
    refine lv_aload_n hx hb dX6_order_16 rfl (lv_at hl 0 rfl) ?_
    refine lv_sipush (v := 4095) hx hb dX6_order_17 (by decide) ?_
    obtain ⟨st_4, hr_3, h⟩ := bd1_some h
    refine callV_V (rest := []) C hI (c_X6_search l g X am N 4095 st hr_3) (cwV 1 hts gX6_order_X6_search rfl rfl rfl hv_X6_search ⟨Nat.le_of_ble_eq_true rfl, Nat.le_of_ble_eq_true rfl⟩) (w_recv C hI X.length wM_ob rfl) rfl hl.1 rfl (Nat.le_of_ble_eq_true rfl) dX6_order_20 (fun H locs hI => ?_)
    refine lv_aload_n hx hb dX6_order_23 rfl (lv_at hl 0 rfl) ?_
    refine w_get (v := .int (st_4 10 2)) C hinRX6 hI X.length wM_ob rfl 8 (by decide) lk92 rfl rfl dX6_order_24 ?_
    obtain ⟨rfl, rfl⟩ := ret2 h
    exact hret H locs _ ls hI dX6_order_27
  · replace h := (if_neg c_2).symm.trans h
    refine lv_aload_n hx hb dX6_order_7 rfl (lv_at hl 0 rfl) ?_
    refine lv_aload_n hx hb dX6_order_8 rfl (lv_at hl 0 rfl) ?_
    refine callV_I (rest := [.ref (am 0)]) C hI (c_X6_noOrder l g X am st) (cwV 0 hts gX6_order_X6_noOrder rfl rfl rfl hv_X6_noOrder ⟨Nat.le_of_ble_eq_true rfl, Nat.le_of_ble_eq_true rfl⟩) (w_recv C hI X.length wM_ob rfl) rfl hl.1 rfl (Nat.le_of_ble_eq_true rfl) dX6_order_9 (fun H locs hI => ?_)
    refine gen_i h (fun r_5 h => ?_)
    obtain ⟨r_7, st_8, hr_6, h⟩ := bd2_some h
    refine callV_I (rest := []) C hI (c_X6_finding l g X am r_5 st hr_6) (cwV 1 hts gX6_order_X6_finding rfl rfl rfl hv_X6_finding ⟨Nat.le_of_ble_eq_true rfl, Nat.le_of_ble_eq_true rfl⟩) (w_recv C hI X.length wM_ob rfl) rfl hl.1 rfl (Nat.le_of_ble_eq_true rfl) dX6_order_12 (fun H locs hI => ?_)
    obtain ⟨rfl, rfl⟩ := ret2 h
    exact hret H locs _ ls hI dX6_order_15
theorem hv_X6_order : yX6_order.cls = RX6 ∧ yX6_order.cls ≠ "java/lang/invoke/MethodHandle" ∧ yX6_order.cls ≠ "java/lang/invoke/VarHandle" ∧ (parseMethodDescriptor yX6_order.desc).map (fun d => d.parameters.length) = some 0 := by decide +kernel
/-! X6_at -/
def rmX6_at : Room := { frames := 3, cells := 0, slots := 0, locals := 73 }
def f_X6_at (N : Nat) (st : St) (x1 : Int32) : Option (Int32 × St) := bnd (f_X6_noOrder st) fun r_1 => if r_1 = 0 then bnd (f_X6_within x1 0 ((st 0 0) - 1)) fun r_3 => if b2i r_3 = 0 then bd2 (f_X6_finding st (-100001 : Int32)) fun r_9 st_10 => some (r_9, st_10) else bd1 (f_X6_search N st 4095) fun st_6 => ck 10 x1 fun j_7 => some (st_6 6 j_7, st_6) else bnd (f_X6_noOrder st) fun r_11 => bd2 (f_X6_finding st r_11) fun r_13 st_14 => some (r_13, st_14)
set_option maxHeartbeats 4000000 in
set_option maxRecDepth 100000 in
theorem c_X6_at (l : Launch) (g : GP) (X : va_W) (am : Nat → Nat) (N : Nat) (x1 : Int32)  (st : St) {r : Int32} {st' : St} (h : f_X6_at N st x1 = some (r, st')) : MetI l yX6_at wsX6_at rmX6_at g (wMX g X am) [.ref (am 0), .int x1] st (r) st' := by
  refine metI_of (cc := cX6_at) (nL := 2) (ty := .int) (by decide) rfl (Nat.le_of_ble_eq_true rfl) rfl ?_
  intro p e s m below meth c Q A C hret H locs hI ls hl
  have C : Cx p s m _ c cX6_at 2 wsX6_at RX6 g A := C
  obtain ⟨hx, hb, hml, hown, hts⟩ := id C.1
  have hl : lv_has ls 2 [(0, .ref (am 0)), (1, .int x1)] := hl
  have hinRX6 : ∀ w ∈ u_ws RX6 TX6 16, w ∈ wsX6_at := by decide +kernel
  have lk9 := hts (.fieldLink RX6 9 "GraveRowsModel" "now" "[I") (by decide +kernel)
  have lk28 := hts (.fieldLink RX6 28 "GraveRowsModel" "best" "[I") (by decide +kernel)
  have lc48 := hts (.constant RX6 48 (-100001)) (by decide +kernel)
  rw [f_X6_at] at h
  refine lv_aload_n hx hb dX6_at_0 rfl (lv_at hl 0 rfl) ?_
  refine callV_I (rest := []) C hI (c_X6_noOrder l g X am st) (cwV 0 hts gX6_at_X6_noOrder rfl rfl rfl hv_X6_noOrder ⟨Nat.le_of_ble_eq_true rfl, Nat.le_of_ble_eq_true rfl⟩) (w_recv C hI X.length wM_ob rfl) rfl hl.1 rfl (Nat.le_of_ble_eq_true rfl) dX6_at_1 (fun H locs hI => ?_)
  refine gen_i h (fun r_1 h => ?_)
  refine lv_if_eq (tgt := 16) hx hb dX6_at_4 (by decide) (fun c_2 => ?_) (fun c_2 => ?_)
  · replace h := (if_pos c_2).symm.trans h
    refine lv_iload_n hx hb dX6_at_16 rfl (lv_at hl 1 rfl) ?_
    refine lv_iconst (v := 0) hx hb dX6_at_17 (by decide) ?_
    refine lv_aload_n hx hb dX6_at_18 rfl (lv_at hl 0 rfl) ?_
    refine w_get (v := .ref (am 1)) C hinRX6 hI X.length wM_ob rfl 0 (by decide) lk9 rfl rfl dX6_at_19 ?_
    refine lv_iconst (v := 0) hx hb dX6_at_22 (by decide) ?_
    refine w_ldK C hI (X.length + (0 + 1)) (wM_ar (by decide)) 0 (by decide) (by decide) dX6_at_23 ?_
    refine lv_iconst (v := 1) hx hb dX6_at_24 (by decide) ?_
    refine lv_isub hx hb dX6_at_25 ?_
    refine callS_S (rest := []) C.1 (c_X6_within l x1 0 ((st 0 0) - 1)) (va_cwS 3 hts gX6_at_X6_within rfl rfl rfl hd_X6_within ⟨Nat.le_of_ble_eq_true rfl, Nat.le_of_ble_eq_true rfl⟩) rfl hl.1 rfl (Nat.le_of_ble_eq_true rfl) dX6_at_26 ?_
    refine gen_b h (fun r_3 h => ?_)
    refine lv_if_ne (tgt := 39) hx hb dX6_at_29 (by decide) (fun c_4 => ?_) (fun c_4 => ?_)
    · replace h := (if_neg c_4).symm.trans h
      refine lv_aload_n hx hb dX6_at_39 rfl (lv_at hl 0 rfl) ?_
      refine lv_sipush (v := 4095) hx hb dX6_at_40 (by decide) ?_
      obtain ⟨st_6, hr_5, h⟩ := bd1_some h
      refine callV_V (rest := []) C hI (c_X6_search l g X am N 4095 st hr_5) (cwV 1 hts gX6_at_X6_search rfl rfl rfl hv_X6_search ⟨Nat.le_of_ble_eq_true rfl, Nat.le_of_ble_eq_true rfl⟩) (w_recv C hI X.length wM_ob rfl) rfl hl.1 rfl (Nat.le_of_ble_eq_true rfl) dX6_at_43 (fun H locs hI => ?_)
      refine lv_aload_n hx hb dX6_at_46 rfl (lv_at hl 0 rfl) ?_
      refine w_get (v := .ref (am 7)) C hinRX6 hI X.length wM_ob rfl 10 (by decide) lk28 rfl rfl dX6_at_47 ?_
      refine lv_iload_n hx hb dX6_at_50 rfl (lv_at hl 1 rfl) ?_
      refine w_ld C hI (X.length + (6 + 1)) (wM_ar (by decide)) h dX6_at_51 (fun j_7 hj_7 h => ?_)
      obtain ⟨rfl, rfl⟩ := ret2 h
      exact hret H locs _ ls hI dX6_at_52
    · replace h := (if_pos c_4).symm.trans h
      refine lv_aload_n hx hb dX6_at_32 rfl (lv_at hl 0 rfl) ?_
      refine lv_ldc (v := (-100001)) hx hb hown lc48 dX6_at_33 ?_
      obtain ⟨r_9, st_10, hr_8, h⟩ := bd2_some h
      refine callV_I (rest := []) C hI (c_X6_finding l g X am (-100001 : Int32) st hr_8) (cwV 1 hts gX6_at_X6_finding rfl rfl rfl hv_X6_finding ⟨Nat.le_of_ble_eq_true rfl, Nat.le_of_ble_eq_true rfl⟩) (w_recv C hI X.length wM_ob rfl) rfl hl.1 rfl (Nat.le_of_ble_eq_true rfl) dX6_at_35 (fun H locs hI => ?_)
      obtain ⟨rfl, rfl⟩ := ret2 h
      exact hret H locs _ ls hI dX6_at_38
  · replace h := (if_neg c_2).symm.trans h
    refine lv_aload_n hx hb dX6_at_7 rfl (lv_at hl 0 rfl) ?_
    refine lv_aload_n hx hb dX6_at_8 rfl (lv_at hl 0 rfl) ?_
    refine callV_I (rest := [.ref (am 0)]) C hI (c_X6_noOrder l g X am st) (cwV 0 hts gX6_at_X6_noOrder rfl rfl rfl hv_X6_noOrder ⟨Nat.le_of_ble_eq_true rfl, Nat.le_of_ble_eq_true rfl⟩) (w_recv C hI X.length wM_ob rfl) rfl hl.1 rfl (Nat.le_of_ble_eq_true rfl) dX6_at_9 (fun H locs hI => ?_)
    refine gen_i h (fun r_11 h => ?_)
    obtain ⟨r_13, st_14, hr_12, h⟩ := bd2_some h
    refine callV_I (rest := []) C hI (c_X6_finding l g X am r_11 st hr_12) (cwV 1 hts gX6_at_X6_finding rfl rfl rfl hv_X6_finding ⟨Nat.le_of_ble_eq_true rfl, Nat.le_of_ble_eq_true rfl⟩) (w_recv C hI X.length wM_ob rfl) rfl hl.1 rfl (Nat.le_of_ble_eq_true rfl) dX6_at_12 (fun H locs hI => ?_)
    obtain ⟨rfl, rfl⟩ := ret2 h
    exact hret H locs _ ls hI dX6_at_15
theorem hv_X6_at : yX6_at.cls = RX6 ∧ yX6_at.cls ≠ "java/lang/invoke/MethodHandle" ∧ yX6_at.cls ≠ "java/lang/invoke/VarHandle" ∧ (parseMethodDescriptor yX6_at.desc).map (fun d => d.parameters.length) = some 1 := by decide +kernel
/-! X6_holesIn -/
def rmX6_holesIn : Room := { frames := 2, cells := 0, slots := 0, locals := 48 }
def f_X6_holesIn_L8 (N : Nat) (y1 : Nat) (x2 : Int32) (st : St) (k : Int32 → Int32 → Int32 → Option (Int32)) : Nat → Int32 → Int32 → Int32 → Option (Int32)
  | 0, _, _, _ => none
  | n + 1, x3, x4, x5 => if st 0 0 ≤ x5 then k x3 x4 x5 else ck (mlen y1) x5 fun j_2 => bd1 (f_X6_holesOf N st (st y1 j_2) x4 x2) fun r_4 => bnd (x3 + r_4) fun v_5 => ck (mlen y1) x5 fun j_6 => bnd (x4 ||| ((1 : Int32) <<< ((st y1 j_6) &&& 31))) fun v_7 => f_X6_holesIn_L8 N y1 x2 st k n v_5 v_7 (x5 + 1)
def f_X6_holesIn (N : Nat) (st : St) (x1 : Nat) (x2 : Int32) : Option (Int32) := f_X6_holesIn_L8 N x1 x2 st (fun a_8 a_9 a_10 => some a_8) N 0 0 0
set_option maxHeartbeats 4000000 in
set_option maxRecDepth 100000 in
theorem wl_X6_holesIn_L8 {p : Program} {l : Launch} {e : Env} {s : State} {m : MethodId} {args : Array Value} {below : List Frame} {meth : Method} {c : Code} {Q : State → Prop} {A : Nat → Prop} {g : GP} {X : va_W} {am : Nat → Nat} {r : Int32}  (C : Cx p s m args c cX6_holesIn 6 wsX6_holesIn RX6 g A) (st : St) (hret : RetI p l e rmX6_holesIn s m args below meth c Q cX6_holesIn g A (wMX g X am st) (r)) (N : Nat) (y1 : Nat) (x2 : Int32) (hy1 : y1 < 10) (k : Int32 → Int32 → Int32 → Option (Int32)) (hk : ∀ (x3 : Int32) (x4 : Int32) (x5 : Int32) (H : Heap) (locs : List Loc) (ls : Array Slot), k x3 x4 x5 = some r → IW g A s.heap (wMX g X am st) H locs → lv_has ls 6 [(0, .ref (am 0)), (1, .ref (am (y1 + 1))), (2, .int x2), (3, .int x3), (4, .int x4), (5, .int x5)] → W p l e rmX6_holesIn s m args below meth c H locs 0 0 Q (F0 m 50 ls [])) : ∀ (n : Nat) (x3 : Int32) (x4 : Int32) (x5 : Int32) (H : Heap) (locs : List Loc) (ls : Array Slot), f_X6_holesIn_L8 N y1 x2 st k n x3 x4 x5 = some r → IW g A s.heap (wMX g X am st) H locs → lv_has ls 6 [(0, .ref (am 0)), (1, .ref (am (y1 + 1))), (2, .int x2), (3, .int x3), (4, .int x4), (5, .int x5)] → W p l e rmX6_holesIn s m args below meth c H locs 0 0 Q (F0 m 8 ls []) := by
  obtain ⟨hx, hb, hml, hown, hts⟩ := id C.1
  have hinRX6 : ∀ w ∈ u_ws RX6 TX6 16, w ∈ wsX6_holesIn := by decide +kernel
  have lk9 := hts (.fieldLink RX6 9 "GraveRowsModel" "now" "[I") (by decide +kernel)
  intro n
  induction n with
  | zero =>
    intro x3 x4 x5 H locs ls h hI hl
    rw [f_X6_holesIn_L8] at h
    cases h
  | succ n ih =>
    intro x3 x4 x5 H locs ls h hI hl
    rw [f_X6_holesIn_L8] at h
    refine lv_iload hx hb dX6_holesIn_8 (lv_at hl 5 rfl) ?_
    refine lv_aload_n hx hb dX6_holesIn_10 rfl (lv_at hl 0 rfl) ?_
    refine w_get (v := .ref (am 1)) C hinRX6 hI X.length wM_ob rfl 0 (by decide) lk9 rfl rfl dX6_holesIn_11 ?_
    refine lv_iconst (v := 0) hx hb dX6_holesIn_14 (by decide) ?_
    refine w_ldK C hI (X.length + (0 + 1)) (wM_ar (by decide)) 0 (by decide) (by decide) dX6_holesIn_15 ?_
    refine lv_icmp_ge (tgt := 50) hx hb dX6_holesIn_16 (by decide) (fun c_1 => ?_) (fun c_1 => ?_)
    · replace h := (if_pos c_1).symm.trans h
      exact hk _ _ _ _ _ _ h hI (lv_sub hl [0, 1, 2, 3, 4, 5] rfl)
    · replace h := (if_neg c_1).symm.trans h
      refine lv_iload_n hx hb dX6_holesIn_19 rfl (lv_at hl 3 rfl) ?_
      refine lv_aload_n hx hb dX6_holesIn_20 rfl (lv_at hl 0 rfl) ?_
      refine lv_aload_n hx hb dX6_holesIn_21 rfl (lv_at hl 1 rfl) ?_
      refine lv_iload hx hb dX6_holesIn_22 (lv_at hl 5 rfl) ?_
      refine w_ld C hI (X.length + (y1 + 1)) (wM_ar hy1) h dX6_holesIn_24 (fun j_2 hj_2 h => ?_)
      refine lv_iload hx hb dX6_holesIn_25 (lv_at hl 4 rfl) ?_
      refine lv_iload_n hx hb dX6_holesIn_27 rfl (lv_at hl 2 rfl) ?_
      obtain ⟨r_4, hr_3, h⟩ := bd1_some h
      refine callV_I (rest := [.int x3]) C hI (c_X6_holesOf l g X am N (st y1 j_2) x4 x2 st hr_3) (cwV 3 hts gX6_holesIn_X6_holesOf rfl rfl rfl hv_X6_holesOf ⟨Nat.le_of_ble_eq_true rfl, Nat.le_of_ble_eq_true rfl⟩) (w_recv C hI X.length wM_ob rfl) rfl hl.1 rfl (Nat.le_of_ble_eq_true rfl) dX6_holesIn_28 (fun H locs hI => ?_)
      refine lv_iadd hx hb dX6_holesIn_31 ?_
      refine gen_i h (fun v_5 h => ?_)
      refine lv_istore_n (lv' := [(3, .int v_5), (0, .ref (am 0)), (1, .ref (am (y1 + 1))), (2, .int x2), (4, .int x4), (5, .int x5)]) hx hb dX6_holesIn_32 rfl hl (by decide) rfl (fun ls hl => ?_)
      refine lv_iload hx hb dX6_holesIn_33 (lv_at hl 4 rfl) ?_
      refine lv_iconst (v := 1) hx hb dX6_holesIn_35 (by decide) ?_
      refine lv_aload_n hx hb dX6_holesIn_36 rfl (lv_at hl 2 rfl) ?_
      refine lv_iload hx hb dX6_holesIn_37 (lv_at hl 5 rfl) ?_
      refine w_ld C hI (X.length + (y1 + 1)) (wM_ar hy1) h dX6_holesIn_39 (fun j_6 hj_6 h => ?_)
      refine lv_ishl hx hb dX6_holesIn_40 ?_
      refine lv_ior hx hb dX6_holesIn_41 ?_
      refine gen_i h (fun v_7 h => ?_)
      refine lv_istore (lv' := [(4, .int v_7), (3, .int v_5), (0, .ref (am 0)), (1, .ref (am (y1 + 1))), (2, .int x2), (5, .int x5)]) hx hb dX6_holesIn_42 hl (by decide) rfl (fun ls hl => ?_)
      refine lv_iinc (v := x5 + 1) (lv' := [(5, .int (x5 + 1)), (4, .int v_7), (3, .int v_5), (0, .ref (am 0)), (1, .ref (am (y1 + 1))), (2, .int x2)]) hx hb dX6_holesIn_44 hl (k := 5) rfl rfl (by decide) rfl (fun ls hl => ?_)
      refine lv_goto (tgt := 8) hx hb dX6_holesIn_47 (by decide) ?_
      exact ih _ _ _ _ _ _ h hI (lv_sub hl [3, 4, 5, 2, 1, 0] rfl)
set_option maxHeartbeats 4000000 in
set_option maxRecDepth 100000 in
theorem c_X6_holesIn (l : Launch) (g : GP) (X : va_W) (am : Nat → Nat) (N : Nat) (x1 : Nat) (x2 : Int32) (hx1 : x1 < 10) (st : St) {r : Int32}  (h : f_X6_holesIn N st x1 x2 = some r) : MetI l yX6_holesIn wsX6_holesIn rmX6_holesIn g (wMX g X am) [.ref (am 0), .ref (am (x1 + 1)), .int x2] st (r) st := by
  refine metI_of (cc := cX6_holesIn) (nL := 6) (ty := .int) (by decide) rfl (Nat.le_of_ble_eq_true rfl) rfl ?_
  intro p e s m below meth c Q A C hret H locs hI ls hl
  have C : Cx p s m _ c cX6_holesIn 6 wsX6_holesIn RX6 g A := C
  obtain ⟨hx, hb, hml, hown, hts⟩ := id C.1
  have hl : lv_has ls 6 [(0, .ref (am 0)), (1, .ref (am (x1 + 1))), (2, .int x2)] := hl
  rw [f_X6_holesIn] at h
  refine lv_iconst (v := 0) hx hb dX6_holesIn_0 (by decide) ?_
  refine lv_istore_n (lv' := [(3, .int 0), (0, .ref (am 0)), (1, .ref (am (x1 + 1))), (2, .int x2)]) hx hb dX6_holesIn_1 rfl hl (by decide) rfl (fun ls hl => ?_)
  refine lv_iconst (v := 0) hx hb dX6_holesIn_2 (by decide) ?_
  refine lv_istore (lv' := [(4, .int 0), (3, .int 0), (0, .ref (am 0)), (1, .ref (am (x1 + 1))), (2, .int x2)]) hx hb dX6_holesIn_3 hl (by decide) rfl (fun ls hl => ?_)
  refine lv_iconst (v := 0) hx hb dX6_holesIn_5 (by decide) ?_
  refine lv_istore (lv' := [(5, .int 0), (4, .int 0), (3, .int 0), (0, .ref (am 0)), (1, .ref (am (x1 + 1))), (2, .int x2)]) hx hb dX6_holesIn_6 hl (by decide) rfl (fun ls hl => ?_)
  refine wl_X6_holesIn_L8 C st hret N x1 x2 hx1 _ (fun a_8 a_9 a_10 H locs ls h hI hl => ?_) N 0 0 0 H locs ls h hI (lv_sub hl [3, 4, 5, 2, 1, 0] rfl)
  refine lv_iload_n hx hb dX6_holesIn_50 rfl (lv_at hl 3 rfl) ?_
  obtain rfl := ret1 h
  exact hret H locs _ ls hI dX6_holesIn_51
theorem hv_X6_holesIn : yX6_holesIn.cls = RX6 ∧ yX6_holesIn.cls ≠ "java/lang/invoke/MethodHandle" ∧ yX6_holesIn.cls ≠ "java/lang/invoke/VarHandle" ∧ (parseMethodDescriptor yX6_holesIn.desc).map (fun d => d.parameters.length) = some 2 := by decide +kernel
/-! X6_holes -/
def rmX6_holes : Room := { frames := 3, cells := 0, slots := 0, locals := 73 }
def f_X6_holes (N : Nat) (st : St) (x1 : Int32) : Option (Int32 × St) := bnd (f_X6_isGood x1) fun r_1 => if b2i r_1 = 0 then bd2 (f_X6_finding st (-100001 : Int32)) fun r_14 st_15 => some (r_14, st_15) else bnd (f_X6_noOrder st) fun r_3 => if r_3 = 0 then bd1 (f_X6_search N st 4095) fun st_6 => bd1 (f_X6_holesIn N st_6 6 ((1 : Int32) <<< (x1 &&& 31))) fun r_8 => some (r_8, st_6) else bnd (f_X6_noOrder st) fun r_9 => bd2 (f_X6_finding st r_9) fun r_11 st_12 => some (r_11, st_12)
set_option maxHeartbeats 4000000 in
set_option maxRecDepth 100000 in
theorem c_X6_holes (l : Launch) (g : GP) (X : va_W) (am : Nat → Nat) (N : Nat) (x1 : Int32)  (st : St) {r : Int32} {st' : St} (h : f_X6_holes N st x1 = some (r, st')) : MetI l yX6_holes wsX6_holes rmX6_holes g (wMX g X am) [.ref (am 0), .int x1] st (r) st' := by
  refine metI_of (cc := cX6_holes) (nL := 2) (ty := .int) (by decide) rfl (Nat.le_of_ble_eq_true rfl) rfl ?_
  intro p e s m below meth c Q A C hret H locs hI ls hl
  have C : Cx p s m _ c cX6_holes 2 wsX6_holes RX6 g A := C
  obtain ⟨hx, hb, hml, hown, hts⟩ := id C.1
  have hl : lv_has ls 2 [(0, .ref (am 0)), (1, .int x1)] := hl
  have hinRX6 : ∀ w ∈ u_ws RX6 TX6 16, w ∈ wsX6_holes := by decide +kernel
  have lk28 := hts (.fieldLink RX6 28 "GraveRowsModel" "best" "[I") (by decide +kernel)
  have lc48 := hts (.constant RX6 48 (-100001)) (by decide +kernel)
  rw [f_X6_holes] at h
  refine lv_iload_n hx hb dX6_holes_0 rfl (lv_at hl 1 rfl) ?_
  refine callS_S (rest := []) C.1 (c_X6_isGood l x1) (va_cwS 1 hts gX6_holes_X6_isGood rfl rfl rfl hd_X6_isGood ⟨Nat.le_of_ble_eq_true rfl, Nat.le_of_ble_eq_true rfl⟩) rfl hl.1 rfl (Nat.le_of_ble_eq_true rfl) dX6_holes_1 ?_
  refine gen_b h (fun r_1 h => ?_)
  refine lv_if_ne (tgt := 14) hx hb dX6_holes_4 (by decide) (fun c_2 => ?_) (fun c_2 => ?_)
  · replace h := (if_neg c_2).symm.trans h
    refine lv_aload_n hx hb dX6_holes_14 rfl (lv_at hl 0 rfl) ?_
    refine callV_I (rest := []) C hI (c_X6_noOrder l g X am st) (cwV 0 hts gX6_holes_X6_noOrder rfl rfl rfl hv_X6_noOrder ⟨Nat.le_of_ble_eq_true rfl, Nat.le_of_ble_eq_true rfl⟩) (w_recv C hI X.length wM_ob rfl) rfl hl.1 rfl (Nat.le_of_ble_eq_true rfl) dX6_holes_15 (fun H locs hI => ?_)
    refine gen_i h (fun r_3 h => ?_)
    refine lv_if_eq (tgt := 30) hx hb dX6_holes_18 (by decide) (fun c_4 => ?_) (fun c_4 => ?_)
    · replace h := (if_pos c_4).symm.trans h
      refine lv_aload_n hx hb dX6_holes_30 rfl (lv_at hl 0 rfl) ?_
      refine lv_sipush (v := 4095) hx hb dX6_holes_31 (by decide) ?_
      obtain ⟨st_6, hr_5, h⟩ := bd1_some h
      refine callV_V (rest := []) C hI (c_X6_search l g X am N 4095 st hr_5) (cwV 1 hts gX6_holes_X6_search rfl rfl rfl hv_X6_search ⟨Nat.le_of_ble_eq_true rfl, Nat.le_of_ble_eq_true rfl⟩) (w_recv C hI X.length wM_ob rfl) rfl hl.1 rfl (Nat.le_of_ble_eq_true rfl) dX6_holes_34 (fun H locs hI => ?_)
      refine lv_aload_n hx hb dX6_holes_37 rfl (lv_at hl 0 rfl) ?_
      refine lv_aload_n hx hb dX6_holes_38 rfl (lv_at hl 0 rfl) ?_
      refine w_get (v := .ref (am 7)) C hinRX6 hI X.length wM_ob rfl 10 (by decide) lk28 rfl rfl dX6_holes_39 ?_
      refine lv_iconst (v := 1) hx hb dX6_holes_42 (by decide) ?_
      refine lv_iload_n hx hb dX6_holes_43 rfl (lv_at hl 1 rfl) ?_
      refine lv_ishl hx hb dX6_holes_44 ?_
      obtain ⟨r_8, hr_7, h⟩ := bd1_some h
      refine callV_I (rest := []) C hI (c_X6_holesIn l g X am N 6 ((1 : Int32) <<< (x1 &&& 31)) (by decide) st_6 hr_7) (cwV 2 hts gX6_holes_X6_holesIn rfl rfl rfl hv_X6_holesIn ⟨Nat.le_of_ble_eq_true rfl, Nat.le_of_ble_eq_true rfl⟩) (w_recv C hI X.length wM_ob rfl) rfl hl.1 rfl (Nat.le_of_ble_eq_true rfl) dX6_holes_45 (fun H locs hI => ?_)
      obtain ⟨rfl, rfl⟩ := ret2 h
      exact hret H locs _ ls hI dX6_holes_48
    · replace h := (if_neg c_4).symm.trans h
      refine lv_aload_n hx hb dX6_holes_21 rfl (lv_at hl 0 rfl) ?_
      refine lv_aload_n hx hb dX6_holes_22 rfl (lv_at hl 0 rfl) ?_
      refine callV_I (rest := [.ref (am 0)]) C hI (c_X6_noOrder l g X am st) (cwV 0 hts gX6_holes_X6_noOrder rfl rfl rfl hv_X6_noOrder ⟨Nat.le_of_ble_eq_true rfl, Nat.le_of_ble_eq_true rfl⟩) (w_recv C hI X.length wM_ob rfl) rfl hl.1 rfl (Nat.le_of_ble_eq_true rfl) dX6_holes_23 (fun H locs hI => ?_)
      refine gen_i h (fun r_9 h => ?_)
      obtain ⟨r_11, st_12, hr_10, h⟩ := bd2_some h
      refine callV_I (rest := []) C hI (c_X6_finding l g X am r_9 st hr_10) (cwV 1 hts gX6_holes_X6_finding rfl rfl rfl hv_X6_finding ⟨Nat.le_of_ble_eq_true rfl, Nat.le_of_ble_eq_true rfl⟩) (w_recv C hI X.length wM_ob rfl) rfl hl.1 rfl (Nat.le_of_ble_eq_true rfl) dX6_holes_26 (fun H locs hI => ?_)
      obtain ⟨rfl, rfl⟩ := ret2 h
      exact hret H locs _ ls hI dX6_holes_29
  · replace h := (if_pos c_2).symm.trans h
    refine lv_aload_n hx hb dX6_holes_7 rfl (lv_at hl 0 rfl) ?_
    refine lv_ldc (v := (-100001)) hx hb hown lc48 dX6_holes_8 ?_
    obtain ⟨r_14, st_15, hr_13, h⟩ := bd2_some h
    refine callV_I (rest := []) C hI (c_X6_finding l g X am (-100001 : Int32) st hr_13) (cwV 1 hts gX6_holes_X6_finding rfl rfl rfl hv_X6_finding ⟨Nat.le_of_ble_eq_true rfl, Nat.le_of_ble_eq_true rfl⟩) (w_recv C hI X.length wM_ob rfl) rfl hl.1 rfl (Nat.le_of_ble_eq_true rfl) dX6_holes_10 (fun H locs hI => ?_)
    obtain ⟨rfl, rfl⟩ := ret2 h
    exact hret H locs _ ls hI dX6_holes_13
theorem hv_X6_holes : yX6_holes.cls = RX6 ∧ yX6_holes.cls ≠ "java/lang/invoke/MethodHandle" ∧ yX6_holes.cls ≠ "java/lang/invoke/VarHandle" ∧ (parseMethodDescriptor yX6_holes.desc).map (fun d => d.parameters.length) = some 1 := by decide +kernel
/-! X6_has -/
def rmX6_has : Room := { frames := 0, cells := 0, slots := 0, locals := 0 }
def f_X6_has (st : St) (x1 : Int32) (x2 : Int32) : Option (Bool) := ck 116 (32 + x1) fun j_1 => if ((st 0 j_1) >>> (x2 &&& 31)) &&& (1 : Int32) = 1 then some true else some false
set_option maxHeartbeats 4000000 in
set_option maxRecDepth 100000 in
theorem c_X6_has (l : Launch) (g : GP) (X : va_W) (am : Nat → Nat) (x1 : Int32) (x2 : Int32)  (st : St) {r : Bool}  (h : f_X6_has st x1 x2 = some r) : MetI l yX6_has wsX6_has rmX6_has g (wMX g X am) [.ref (am 0), .int x1, .int x2] st (b2i r) st := by
  refine metI_of (cc := cX6_has) (nL := 3) (ty := .boolean) (by decide) rfl (Nat.le_of_ble_eq_true rfl) (nar_b _) ?_
  intro p e s m below meth c Q A C hret H locs hI ls hl
  have C : Cx p s m _ c cX6_has 3 wsX6_has RX6 g A := C
  obtain ⟨hx, hb, hml, hown, hts⟩ := id C.1
  have hl : lv_has ls 3 [(0, .ref (am 0)), (1, .int x1), (2, .int x2)] := hl
  have hinRX6 : ∀ w ∈ u_ws RX6 TX6 16, w ∈ wsX6_has := by decide +kernel
  have lk9 := hts (.fieldLink RX6 9 "GraveRowsModel" "now" "[I") (by decide +kernel)
  rw [f_X6_has] at h
  refine lv_aload_n hx hb dX6_has_0 rfl (lv_at hl 0 rfl) ?_
  refine w_get (v := .ref (am 1)) C hinRX6 hI X.length wM_ob rfl 0 (by decide) lk9 rfl rfl dX6_has_1 ?_
  refine lv_bipush (v := 32) hx hb dX6_has_4 (by decide) ?_
  refine lv_iload_n hx hb dX6_has_6 rfl (lv_at hl 1 rfl) ?_
  refine lv_iadd hx hb dX6_has_7 ?_
  refine w_ld C hI (X.length + (0 + 1)) (wM_ar (by decide)) h dX6_has_8 (fun j_1 hj_1 h => ?_)
  refine lv_iload_n hx hb dX6_has_9 rfl (lv_at hl 2 rfl) ?_
  refine lv_ishr hx hb dX6_has_10 ?_
  refine lv_iconst (v := 1) hx hb dX6_has_11 (by decide) ?_
  refine lv_iand hx hb dX6_has_12 ?_
  refine lv_iconst (v := 1) hx hb dX6_has_13 (by decide) ?_
  refine lv_icmp_ne (tgt := 21) hx hb dX6_has_14 (by decide) (fun c_2 => ?_) (fun c_2 => ?_)
  · replace h := (if_neg c_2).symm.trans h
    refine lv_iconst (v := 0) hx hb dX6_has_21 (by decide) ?_
    obtain rfl := ret1 h
    exact hret H locs _ ls hI dX6_has_22
  · replace h := (if_pos c_2).symm.trans h
    refine lv_iconst (v := 1) hx hb dX6_has_17 (by decide) ?_
    refine lv_goto (tgt := 22) hx hb dX6_has_18 (by decide) ?_
    obtain rfl := ret1 h
    exact hret H locs _ ls hI dX6_has_22
theorem hv_X6_has : yX6_has.cls = RX6 ∧ yX6_has.cls ≠ "java/lang/invoke/MethodHandle" ∧ yX6_has.cls ≠ "java/lang/invoke/VarHandle" ∧ (parseMethodDescriptor yX6_has.desc).map (fun d => d.parameters.length) = some 2 := by decide +kernel
/-! X6_good -/
def rmX6_good : Room := { frames := 3, cells := 0, slots := 0, locals := 73 }
def f_X6_good_L19 (N : Nat) (x1 : Int32) (x2 : Bool) (st : St) (k : Int32 → Int32 → Option (Int32 × St)) : Nat → Int32 → Int32 → Option (Int32 × St)
  | 0, _, _ => none
  | n + 1, x3, x4 => if st 0 0 ≤ x4 then k x3 x4 else if x3 = 0 then bd1 (f_X6_has st x4 x1) fun r_6 => if b2i r_6 = 0 then f_X6_good_L19 N x1 x2 st k n 0 (x4 + 1) else f_X6_good_L19 N x1 x2 st k n 1 (x4 + 1) else f_X6_good_L19 N x1 x2 st k n 1 (x4 + 1)
def f_X6_good_L96 (N : Nat) (x1 : Int32) (x2 : Bool) (st : St) (k : Int32 → Int32 → Option (Int32 × St)) : Nat → Int32 → Int32 → Option (Int32 × St)
  | 0, _, _ => none
  | n + 1, x4, x5 => if st 0 0 ≤ x5 then k x4 x5 else ck 10 x5 fun j_16 => bd1 (f_X6_has st (st 6 j_16) x1) fun r_18 => if b2i r_18 = 0 then f_X6_good_L96 N x1 x2 st k n x4 (x5 + 1) else if b2i x2 = 0 then if 0 ≤ x4 then f_X6_good_L96 N x1 x2 st k n x4 (x5 + 1) else f_X6_good_L96 N x1 x2 st k n x5 (x5 + 1) else f_X6_good_L96 N x1 x2 st k n x5 (x5 + 1)
def f_X6_good (N : Nat) (st : St) (x1 : Int32) (x2 : Bool) : Option (Int32 × St) := bnd (f_X6_isGood x1) fun r_1 => if b2i r_1 = 0 then bd2 (f_X6_finding st (-100001 : Int32)) fun r_32 st_33 => some (r_32, st_33) else f_X6_good_L19 N x1 x2 st (fun a_8 a_9 => if a_8 = 0 then bd2 (f_X6_finding st (-100006 : Int32)) fun r_29 st_30 => some (r_29, st_30) else bnd (f_X6_noOrder st) fun r_11 => if r_11 = 0 then bd1 (f_X6_search N st 4095) fun st_14 => f_X6_good_L96 N x1 x2 st_14 (fun a_22 a_23 => some (a_22, st_14)) N (-1 : Int32) 0 else bnd (f_X6_noOrder st) fun r_24 => bd2 (f_X6_finding st r_24) fun r_26 st_27 => some (r_26, st_27)) N 0 0
set_option maxHeartbeats 4000000 in
set_option maxRecDepth 100000 in
theorem wl_X6_good_L19 {p : Program} {l : Launch} {e : Env} {s : State} {m : MethodId} {args : Array Value} {below : List Frame} {meth : Method} {c : Code} {Q : State → Prop} {A : Nat → Prop} {g : GP} {X : va_W} {am : Nat → Nat} {r : Int32} {st' : St} (C : Cx p s m args c cX6_good 6 wsX6_good RX6 g A) (hret : RetI p l e rmX6_good s m args below meth c Q cX6_good g A (wMX g X am st') (r)) (N : Nat) (x1 : Int32) (x2 : Bool) (st : St)  (k : Int32 → Int32 → Option (Int32 × St)) (hk : ∀ (x3 : Int32) (x4 : Int32) (H : Heap) (locs : List Loc) (ls : Array Slot), k x3 x4 = some (r, st') → IW g A s.heap (wMX g X am st) H locs → lv_has ls 6 [(0, .ref (am 0)), (1, .int x1), (2, .int (b2i x2)), (3, .int x3), (4, .int x4)] → W p l e rmX6_good s m args below meth c H locs 0 0 Q (F0 m 56 ls [])) : ∀ (n : Nat) (x3 : Int32) (x4 : Int32) (H : Heap) (locs : List Loc) (ls : Array Slot), f_X6_good_L19 N x1 x2 st k n x3 x4 = some (r, st') → IW g A s.heap (wMX g X am st) H locs → lv_has ls 6 [(0, .ref (am 0)), (1, .int x1), (2, .int (b2i x2)), (3, .int x3), (4, .int x4)] → W p l e rmX6_good s m args below meth c H locs 0 0 Q (F0 m 19 ls []) := by
  obtain ⟨hx, hb, hml, hown, hts⟩ := id C.1
  have hinRX6 : ∀ w ∈ u_ws RX6 TX6 16, w ∈ wsX6_good := by decide +kernel
  have lk9 := hts (.fieldLink RX6 9 "GraveRowsModel" "now" "[I") (by decide +kernel)
  intro n
  induction n with
  | zero =>
    intro x3 x4 H locs ls h hI hl
    rw [f_X6_good_L19] at h
    cases h
  | succ n ih =>
    intro x3 x4 H locs ls h hI hl
    rw [f_X6_good_L19] at h
    refine lv_iload hx hb dX6_good_19 (lv_at hl 4 rfl) ?_
    refine lv_aload_n hx hb dX6_good_21 rfl (lv_at hl 0 rfl) ?_
    refine w_get (v := .ref (am 1)) C hinRX6 hI X.length wM_ob rfl 0 (by decide) lk9 rfl rfl dX6_good_22 ?_
    refine lv_iconst (v := 0) hx hb dX6_good_25 (by decide) ?_
    refine w_ldK C hI (X.length + (0 + 1)) (wM_ar (by decide)) 0 (by decide) (by decide) dX6_good_26 ?_
    refine lv_icmp_ge (tgt := 56) hx hb dX6_good_27 (by decide) (fun c_3 => ?_) (fun c_3 => ?_)
    · replace h := (if_pos c_3).symm.trans h
      exact hk _ _ _ _ _ h hI (lv_sub hl [0, 1, 2, 3, 4] rfl)
    · replace h := (if_neg c_3).symm.trans h
      refine lv_iload_n hx hb dX6_good_30 rfl (lv_at hl 3 rfl) ?_
      refine lv_if_ne (tgt := 44) hx hb dX6_good_31 (by decide) (fun c_4 => ?_) (fun c_4 => ?_)
      · replace h := (if_neg c_4).symm.trans h
        refine lv_iconst (v := 1) hx hb dX6_good_44 (by decide) ?_
        refine lv_goto (tgt := 49) hx hb dX6_good_45 (by decide) ?_
        refine lv_istore_n (lv' := [(3, .int 1), (0, .ref (am 0)), (1, .int x1), (2, .int (b2i x2)), (4, .int x4)]) hx hb dX6_good_49 rfl hl (by decide) rfl (fun ls hl => ?_)
        refine lv_iinc (v := x4 + 1) (lv' := [(4, .int (x4 + 1)), (3, .int 1), (0, .ref (am 0)), (1, .int x1), (2, .int (b2i x2))]) hx hb dX6_good_50 hl (k := 4) rfl rfl (by decide) rfl (fun ls hl => ?_)
        refine lv_goto (tgt := 19) hx hb dX6_good_53 (by decide) ?_
        exact ih _ _ _ _ _ h hI (lv_sub hl [2, 3, 4, 1, 0] rfl)
      · replace h := (if_pos c_4).symm.trans h
        refine lv_aload_n hx hb dX6_good_34 rfl (lv_at hl 0 rfl) ?_
        refine lv_iload hx hb dX6_good_35 (lv_at hl 4 rfl) ?_
        refine lv_iload_n hx hb dX6_good_37 rfl (lv_at hl 1 rfl) ?_
        obtain ⟨r_6, hr_5, h⟩ := bd1_some h
        refine callV_I (rest := []) C hI (c_X6_has l g X am x4 x1 st hr_5) (cwV 2 hts gX6_good_X6_has rfl rfl rfl hv_X6_has ⟨Nat.le_of_ble_eq_true rfl, Nat.le_of_ble_eq_true rfl⟩) (w_recv C hI X.length wM_ob rfl) rfl hl.1 rfl (Nat.le_of_ble_eq_true rfl) dX6_good_38 (fun H locs hI => ?_)
        refine lv_if_eq (tgt := 48) hx hb dX6_good_41 (by decide) (fun c_7 => ?_) (fun c_7 => ?_)
        · replace h := (if_pos c_7).symm.trans h
          refine lv_iconst (v := 0) hx hb dX6_good_48 (by decide) ?_
          refine lv_istore_n (lv' := [(3, .int 0), (0, .ref (am 0)), (1, .int x1), (2, .int (b2i x2)), (4, .int x4)]) hx hb dX6_good_49 rfl hl (by decide) rfl (fun ls hl => ?_)
          refine lv_iinc (v := x4 + 1) (lv' := [(4, .int (x4 + 1)), (3, .int 0), (0, .ref (am 0)), (1, .int x1), (2, .int (b2i x2))]) hx hb dX6_good_50 hl (k := 4) rfl rfl (by decide) rfl (fun ls hl => ?_)
          refine lv_goto (tgt := 19) hx hb dX6_good_53 (by decide) ?_
          exact ih _ _ _ _ _ h hI (lv_sub hl [2, 3, 4, 1, 0] rfl)
        · replace h := (if_neg c_7).symm.trans h
          refine lv_iconst (v := 1) hx hb dX6_good_44 (by decide) ?_
          refine lv_goto (tgt := 49) hx hb dX6_good_45 (by decide) ?_
          refine lv_istore_n (lv' := [(3, .int 1), (0, .ref (am 0)), (1, .int x1), (2, .int (b2i x2)), (4, .int x4)]) hx hb dX6_good_49 rfl hl (by decide) rfl (fun ls hl => ?_)
          refine lv_iinc (v := x4 + 1) (lv' := [(4, .int (x4 + 1)), (3, .int 1), (0, .ref (am 0)), (1, .int x1), (2, .int (b2i x2))]) hx hb dX6_good_50 hl (k := 4) rfl rfl (by decide) rfl (fun ls hl => ?_)
          refine lv_goto (tgt := 19) hx hb dX6_good_53 (by decide) ?_
          exact ih _ _ _ _ _ h hI (lv_sub hl [2, 3, 4, 1, 0] rfl)
set_option maxHeartbeats 4000000 in
set_option maxRecDepth 100000 in
theorem wl_X6_good_L96 {p : Program} {l : Launch} {e : Env} {s : State} {m : MethodId} {args : Array Value} {below : List Frame} {meth : Method} {c : Code} {Q : State → Prop} {A : Nat → Prop} {g : GP} {X : va_W} {am : Nat → Nat} {r : Int32} {st' : St} (C : Cx p s m args c cX6_good 6 wsX6_good RX6 g A) (hret : RetI p l e rmX6_good s m args below meth c Q cX6_good g A (wMX g X am st') (r)) (N : Nat) (x1 : Int32) (x2 : Bool) (st : St)  (k : Int32 → Int32 → Option (Int32 × St)) (hk : ∀ (x4 : Int32) (x5 : Int32) (H : Heap) (locs : List Loc) (ls : Array Slot), k x4 x5 = some (r, st') → IW g A s.heap (wMX g X am st) H locs → lv_has ls 6 [(0, .ref (am 0)), (1, .int x1), (2, .int (b2i x2)), (4, .int x4), (5, .int x5)] → W p l e rmX6_good s m args below meth c H locs 0 0 Q (F0 m 146 ls [])) : ∀ (n : Nat) (x4 : Int32) (x5 : Int32) (H : Heap) (locs : List Loc) (ls : Array Slot), f_X6_good_L96 N x1 x2 st k n x4 x5 = some (r, st') → IW g A s.heap (wMX g X am st) H locs → lv_has ls 6 [(0, .ref (am 0)), (1, .int x1), (2, .int (b2i x2)), (4, .int x4), (5, .int x5)] → W p l e rmX6_good s m args below meth c H locs 0 0 Q (F0 m 96 ls []) := by
  obtain ⟨hx, hb, hml, hown, hts⟩ := id C.1
  have hinRX6 : ∀ w ∈ u_ws RX6 TX6 16, w ∈ wsX6_good := by decide +kernel
  have lk9 := hts (.fieldLink RX6 9 "GraveRowsModel" "now" "[I") (by decide +kernel)
  have lk28 := hts (.fieldLink RX6 28 "GraveRowsModel" "best" "[I") (by decide +kernel)
  intro n
  induction n with
  | zero =>
    intro x4 x5 H locs ls h hI hl
    rw [f_X6_good_L96] at h
    cases h
  | succ n ih =>
    intro x4 x5 H locs ls h hI hl
    rw [f_X6_good_L96] at h
    refine lv_iload hx hb dX6_good_96 (lv_at hl 4 rfl) ?_
    refine lv_aload_n hx hb dX6_good_98 rfl (lv_at hl 0 rfl) ?_
    refine w_get (v := .ref (am 1)) C hinRX6 hI X.length wM_ob rfl 0 (by decide) lk9 rfl rfl dX6_good_99 ?_
    refine lv_iconst (v := 0) hx hb dX6_good_102 (by decide) ?_
    refine w_ldK C hI (X.length + (0 + 1)) (wM_ar (by decide)) 0 (by decide) (by decide) dX6_good_103 ?_
    refine lv_icmp_ge (tgt := 146) hx hb dX6_good_104 (by decide) (fun c_15 => ?_) (fun c_15 => ?_)
    · replace h := (if_pos c_15).symm.trans h
      exact hk _ _ _ _ _ h hI (lv_sub hl [0, 1, 2, 3, 4] rfl)
    · replace h := (if_neg c_15).symm.trans h
      refine lv_aload_n hx hb dX6_good_107 rfl (lv_at hl 0 rfl) ?_
      refine lv_aload_n hx hb dX6_good_108 rfl (lv_at hl 0 rfl) ?_
      refine w_get (v := .ref (am 7)) C hinRX6 hI X.length wM_ob rfl 10 (by decide) lk28 rfl rfl dX6_good_109 ?_
      refine lv_iload hx hb dX6_good_112 (lv_at hl 4 rfl) ?_
      refine w_ld C hI (X.length + (6 + 1)) (wM_ar (by decide)) h dX6_good_114 (fun j_16 hj_16 h => ?_)
      refine lv_iload_n hx hb dX6_good_115 rfl (lv_at hl 1 rfl) ?_
      obtain ⟨r_18, hr_17, h⟩ := bd1_some h
      refine callV_I (rest := []) C hI (c_X6_has l g X am (st 6 j_16) x1 st hr_17) (cwV 2 hts gX6_good_X6_has rfl rfl rfl hv_X6_has ⟨Nat.le_of_ble_eq_true rfl, Nat.le_of_ble_eq_true rfl⟩) (w_recv C hI X.length wM_ob rfl) rfl hl.1 rfl (Nat.le_of_ble_eq_true rfl) dX6_good_116 (fun H locs hI => ?_)
      refine lv_if_eq (tgt := 136) hx hb dX6_good_119 (by decide) (fun c_19 => ?_) (fun c_19 => ?_)
      · replace h := (if_pos c_19).symm.trans h
        refine lv_iload hx hb dX6_good_136 (lv_at hl 3 rfl) ?_
        refine lv_istore (lv' := [(4, .int x4), (0, .ref (am 0)), (1, .int x1), (2, .int (b2i x2)), (5, .int x5)]) hx hb dX6_good_138 hl (by decide) rfl (fun ls hl => ?_)
        refine lv_iinc (v := x5 + 1) (lv' := [(5, .int (x5 + 1)), (4, .int x4), (0, .ref (am 0)), (1, .int x1), (2, .int (b2i x2))]) hx hb dX6_good_140 hl (k := 4) rfl rfl (by decide) rfl (fun ls hl => ?_)
        refine lv_goto (tgt := 96) hx hb dX6_good_143 (by decide) ?_
        exact ih _ _ _ _ _ h hI (lv_sub hl [2, 3, 4, 1, 0] rfl)
      · replace h := (if_neg c_19).symm.trans h
        refine lv_iload_n hx hb dX6_good_122 rfl (lv_at hl 2 rfl) ?_
        refine lv_if_ne (tgt := 131) hx hb dX6_good_123 (by decide) (fun c_20 => ?_) (fun c_20 => ?_)
        · replace h := (if_neg c_20).symm.trans h
          refine lv_iload hx hb dX6_good_131 (lv_at hl 4 rfl) ?_
          refine lv_goto (tgt := 138) hx hb dX6_good_133 (by decide) ?_
          refine lv_istore (lv' := [(4, .int x5), (0, .ref (am 0)), (1, .int x1), (2, .int (b2i x2)), (5, .int x5)]) hx hb dX6_good_138 hl (by decide) rfl (fun ls hl => ?_)
          refine lv_iinc (v := x5 + 1) (lv' := [(5, .int (x5 + 1)), (4, .int x5), (0, .ref (am 0)), (1, .int x1), (2, .int (b2i x2))]) hx hb dX6_good_140 hl (k := 4) rfl rfl (by decide) rfl (fun ls hl => ?_)
          refine lv_goto (tgt := 96) hx hb dX6_good_143 (by decide) ?_
          exact ih _ _ _ _ _ h hI (lv_sub hl [2, 3, 4, 1, 0] rfl)
        · replace h := (if_pos c_20).symm.trans h
          refine lv_iload hx hb dX6_good_126 (lv_at hl 3 rfl) ?_
          refine lv_if_ge (tgt := 136) hx hb dX6_good_128 (by decide) (fun c_21 => ?_) (fun c_21 => ?_)
          · replace h := (if_pos c_21).symm.trans h
            refine lv_iload hx hb dX6_good_136 (lv_at hl 3 rfl) ?_
            refine lv_istore (lv' := [(4, .int x4), (0, .ref (am 0)), (1, .int x1), (2, .int (b2i x2)), (5, .int x5)]) hx hb dX6_good_138 hl (by decide) rfl (fun ls hl => ?_)
            refine lv_iinc (v := x5 + 1) (lv' := [(5, .int (x5 + 1)), (4, .int x4), (0, .ref (am 0)), (1, .int x1), (2, .int (b2i x2))]) hx hb dX6_good_140 hl (k := 4) rfl rfl (by decide) rfl (fun ls hl => ?_)
            refine lv_goto (tgt := 96) hx hb dX6_good_143 (by decide) ?_
            exact ih _ _ _ _ _ h hI (lv_sub hl [2, 3, 4, 1, 0] rfl)
          · replace h := (if_neg c_21).symm.trans h
            refine lv_iload hx hb dX6_good_131 (lv_at hl 4 rfl) ?_
            refine lv_goto (tgt := 138) hx hb dX6_good_133 (by decide) ?_
            refine lv_istore (lv' := [(4, .int x5), (0, .ref (am 0)), (1, .int x1), (2, .int (b2i x2)), (5, .int x5)]) hx hb dX6_good_138 hl (by decide) rfl (fun ls hl => ?_)
            refine lv_iinc (v := x5 + 1) (lv' := [(5, .int (x5 + 1)), (4, .int x5), (0, .ref (am 0)), (1, .int x1), (2, .int (b2i x2))]) hx hb dX6_good_140 hl (k := 4) rfl rfl (by decide) rfl (fun ls hl => ?_)
            refine lv_goto (tgt := 96) hx hb dX6_good_143 (by decide) ?_
            exact ih _ _ _ _ _ h hI (lv_sub hl [2, 3, 4, 1, 0] rfl)
set_option maxHeartbeats 4000000 in
set_option maxRecDepth 100000 in
theorem c_X6_good (l : Launch) (g : GP) (X : va_W) (am : Nat → Nat) (N : Nat) (x1 : Int32) (x2 : Bool)  (st : St) {r : Int32} {st' : St} (h : f_X6_good N st x1 x2 = some (r, st')) : MetI l yX6_good wsX6_good rmX6_good g (wMX g X am) [.ref (am 0), .int x1, .int (b2i x2)] st (r) st' := by
  refine metI_of (cc := cX6_good) (nL := 6) (ty := .int) (by decide) rfl (Nat.le_of_ble_eq_true rfl) rfl ?_
  intro p e s m below meth c Q A C hret H locs hI ls hl
  have C : Cx p s m _ c cX6_good 6 wsX6_good RX6 g A := C
  obtain ⟨hx, hb, hml, hown, hts⟩ := id C.1
  have hl : lv_has ls 6 [(0, .ref (am 0)), (1, .int x1), (2, .int (b2i x2))] := hl
  have lc83 := hts (.constant RX6 83 (-100006)) (by decide +kernel)
  have lc48 := hts (.constant RX6 48 (-100001)) (by decide +kernel)
  rw [f_X6_good] at h
  refine lv_iload_n hx hb dX6_good_0 rfl (lv_at hl 1 rfl) ?_
  refine callS_S (rest := []) C.1 (c_X6_isGood l x1) (va_cwS 1 hts gX6_good_X6_isGood rfl rfl rfl hd_X6_isGood ⟨Nat.le_of_ble_eq_true rfl, Nat.le_of_ble_eq_true rfl⟩) rfl hl.1 rfl (Nat.le_of_ble_eq_true rfl) dX6_good_1 ?_
  refine gen_b h (fun r_1 h => ?_)
  refine lv_if_ne (tgt := 14) hx hb dX6_good_4 (by decide) (fun c_2 => ?_) (fun c_2 => ?_)
  · replace h := (if_neg c_2).symm.trans h
    refine lv_iconst (v := 0) hx hb dX6_good_14 (by decide) ?_
    refine lv_istore_n (lv' := [(3, .int 0), (0, .ref (am 0)), (1, .int x1), (2, .int (b2i x2))]) hx hb dX6_good_15 rfl hl (by decide) rfl (fun ls hl => ?_)
    refine lv_iconst (v := 0) hx hb dX6_good_16 (by decide) ?_
    refine lv_istore (lv' := [(4, .int 0), (3, .int 0), (0, .ref (am 0)), (1, .int x1), (2, .int (b2i x2))]) hx hb dX6_good_17 hl (by decide) rfl (fun ls hl => ?_)
    refine wl_X6_good_L19 C hret N x1 x2 st _ (fun a_8 a_9 H locs ls h hI hl => ?_) N 0 0 H locs ls h hI (lv_sub hl [2, 3, 4, 1, 0] rfl)
    refine lv_iload_n hx hb dX6_good_56 rfl (lv_at hl 3 rfl) ?_
    refine lv_if_ne (tgt := 67) hx hb dX6_good_57 (by decide) (fun c_10 => ?_) (fun c_10 => ?_)
    · replace h := (if_neg c_10).symm.trans h
      refine lv_aload_n hx hb dX6_good_67 rfl (lv_at hl 0 rfl) ?_
      refine callV_I (rest := []) C hI (c_X6_noOrder l g X am st) (cwV 0 hts gX6_good_X6_noOrder rfl rfl rfl hv_X6_noOrder ⟨Nat.le_of_ble_eq_true rfl, Nat.le_of_ble_eq_true rfl⟩) (w_recv C hI X.length wM_ob rfl) rfl hl.1 rfl (Nat.le_of_ble_eq_true rfl) dX6_good_68 (fun H locs hI => ?_)
      refine gen_i h (fun r_11 h => ?_)
      refine lv_if_eq (tgt := 83) hx hb dX6_good_71 (by decide) (fun c_12 => ?_) (fun c_12 => ?_)
      · replace h := (if_pos c_12).symm.trans h
        refine lv_aload_n hx hb dX6_good_83 rfl (lv_at hl 0 rfl) ?_
        refine lv_sipush (v := 4095) hx hb dX6_good_84 (by decide) ?_
        obtain ⟨st_14, hr_13, h⟩ := bd1_some h
        refine callV_V (rest := []) C hI (c_X6_search l g X am N 4095 st hr_13) (cwV 1 hts gX6_good_X6_search rfl rfl rfl hv_X6_search ⟨Nat.le_of_ble_eq_true rfl, Nat.le_of_ble_eq_true rfl⟩) (w_recv C hI X.length wM_ob rfl) rfl hl.1 rfl (Nat.le_of_ble_eq_true rfl) dX6_good_87 (fun H locs hI => ?_)
        refine lv_iconst (v := (-1)) hx hb dX6_good_90 (by decide) ?_
        refine lv_istore (lv' := [(4, .int (-1 : Int32)), (0, .ref (am 0)), (1, .int x1), (2, .int (b2i x2)), (3, .int a_8)]) hx hb dX6_good_91 hl (by decide) rfl (fun ls hl => ?_)
        refine lv_iconst (v := 0) hx hb dX6_good_93 (by decide) ?_
        refine lv_istore (lv' := [(5, .int 0), (4, .int (-1 : Int32)), (0, .ref (am 0)), (1, .int x1), (2, .int (b2i x2)), (3, .int a_8)]) hx hb dX6_good_94 hl (by decide) rfl (fun ls hl => ?_)
        refine wl_X6_good_L96 C hret N x1 x2 st_14 _ (fun a_22 a_23 H locs ls h hI hl => ?_) N (-1 : Int32) 0 H locs ls h hI (lv_sub hl [2, 3, 4, 1, 0] rfl)
        refine lv_iload hx hb dX6_good_146 (lv_at hl 3 rfl) ?_
        obtain ⟨rfl, rfl⟩ := ret2 h
        exact hret H locs _ ls hI dX6_good_148
      · replace h := (if_neg c_12).symm.trans h
        refine lv_aload_n hx hb dX6_good_74 rfl (lv_at hl 0 rfl) ?_
        refine lv_aload_n hx hb dX6_good_75 rfl (lv_at hl 0 rfl) ?_
        refine callV_I (rest := [.ref (am 0)]) C hI (c_X6_noOrder l g X am st) (cwV 0 hts gX6_good_X6_noOrder rfl rfl rfl hv_X6_noOrder ⟨Nat.le_of_ble_eq_true rfl, Nat.le_of_ble_eq_true rfl⟩) (w_recv C hI X.length wM_ob rfl) rfl hl.1 rfl (Nat.le_of_ble_eq_true rfl) dX6_good_76 (fun H locs hI => ?_)
        refine gen_i h (fun r_24 h => ?_)
        obtain ⟨r_26, st_27, hr_25, h⟩ := bd2_some h
        refine callV_I (rest := []) C hI (c_X6_finding l g X am r_24 st hr_25) (cwV 1 hts gX6_good_X6_finding rfl rfl rfl hv_X6_finding ⟨Nat.le_of_ble_eq_true rfl, Nat.le_of_ble_eq_true rfl⟩) (w_recv C hI X.length wM_ob rfl) rfl hl.1 rfl (Nat.le_of_ble_eq_true rfl) dX6_good_79 (fun H locs hI => ?_)
        obtain ⟨rfl, rfl⟩ := ret2 h
        exact hret H locs _ ls hI dX6_good_82
    · replace h := (if_pos c_10).symm.trans h
      refine lv_aload_n hx hb dX6_good_60 rfl (lv_at hl 0 rfl) ?_
      refine lv_ldc (v := (-100006)) hx hb hown lc83 dX6_good_61 ?_
      obtain ⟨r_29, st_30, hr_28, h⟩ := bd2_some h
      refine callV_I (rest := []) C hI (c_X6_finding l g X am (-100006 : Int32) st hr_28) (cwV 1 hts gX6_good_X6_finding rfl rfl rfl hv_X6_finding ⟨Nat.le_of_ble_eq_true rfl, Nat.le_of_ble_eq_true rfl⟩) (w_recv C hI X.length wM_ob rfl) rfl hl.1 rfl (Nat.le_of_ble_eq_true rfl) dX6_good_63 (fun H locs hI => ?_)
      obtain ⟨rfl, rfl⟩ := ret2 h
      exact hret H locs _ ls hI dX6_good_66
  · replace h := (if_pos c_2).symm.trans h
    refine lv_aload_n hx hb dX6_good_7 rfl (lv_at hl 0 rfl) ?_
    refine lv_ldc (v := (-100001)) hx hb hown lc48 dX6_good_8 ?_
    obtain ⟨r_32, st_33, hr_31, h⟩ := bd2_some h
    refine callV_I (rest := []) C hI (c_X6_finding l g X am (-100001 : Int32) st hr_31) (cwV 1 hts gX6_good_X6_finding rfl rfl rfl hv_X6_finding ⟨Nat.le_of_ble_eq_true rfl, Nat.le_of_ble_eq_true rfl⟩) (w_recv C hI X.length wM_ob rfl) rfl hl.1 rfl (Nat.le_of_ble_eq_true rfl) dX6_good_10 (fun H locs hI => ?_)
    obtain ⟨rfl, rfl⟩ := ret2 h
    exact hret H locs _ ls hI dX6_good_13
theorem hv_X6_good : yX6_good.cls = RX6 ∧ yX6_good.cls ≠ "java/lang/invoke/MethodHandle" ∧ yX6_good.cls ≠ "java/lang/invoke/VarHandle" ∧ (parseMethodDescriptor yX6_good.desc).map (fun d => d.parameters.length) = some 2 := by decide +kernel
/-! X6_tell -/
def rmX6_tell : Room := { frames := 1, cells := 0, slots := 0, locals := 21 }
def f_X6_tell (st : St) (x1 : Int32) : Option (Int32 × St) := if st 0 1 = 12 then bd2 (f_X6_finding st (-100005 : Int32)) fun r_5 st_6 => some (r_5, st_6) else sto 116 st 0 (104 + (st 0 1)) x1 fun st_2 => bnd (sU st_2 0 1 ((st_2 0 1) + 1)) fun st_3 => some (st_3 0 1, st_3)
set_option maxHeartbeats 4000000 in
set_option maxRecDepth 100000 in
theorem c_X6_tell (l : Launch) (g : GP) (X : va_W) (am : Nat → Nat) (x1 : Int32)  (st : St) {r : Int32} {st' : St} (h : f_X6_tell st x1 = some (r, st')) : MetI l yX6_tell wsX6_tell rmX6_tell g (wMX g X am) [.ref (am 0), .int x1] st (r) st' := by
  refine metI_of (cc := cX6_tell) (nL := 2) (ty := .int) (by decide) rfl (Nat.le_of_ble_eq_true rfl) rfl ?_
  intro p e s m below meth c Q A C hret H locs hI ls hl
  have C : Cx p s m _ c cX6_tell 2 wsX6_tell RX6 g A := C
  obtain ⟨hx, hb, hml, hown, hts⟩ := id C.1
  have hl : lv_has ls 2 [(0, .ref (am 0)), (1, .int x1)] := hl
  have hinRX6 : ∀ w ∈ u_ws RX6 TX6 16, w ∈ wsX6_tell := by decide +kernel
  have lk9 := hts (.fieldLink RX6 9 "GraveRowsModel" "now" "[I") (by decide +kernel)
  have lc53 := hts (.constant RX6 53 (-100005)) (by decide +kernel)
  rw [f_X6_tell] at h
  refine lv_aload_n hx hb dX6_tell_0 rfl (lv_at hl 0 rfl) ?_
  refine w_get (v := .ref (am 1)) C hinRX6 hI X.length wM_ob rfl 0 (by decide) lk9 rfl rfl dX6_tell_1 ?_
  refine lv_iconst (v := 1) hx hb dX6_tell_4 (by decide) ?_
  refine w_ldK C hI (X.length + (0 + 1)) (wM_ar (by decide)) 1 (by decide) (by decide) dX6_tell_5 ?_
  refine lv_bipush (v := 12) hx hb dX6_tell_6 (by decide) ?_
  refine lv_icmp_ne (tgt := 18) hx hb dX6_tell_8 (by decide) (fun c_1 => ?_) (fun c_1 => ?_)
  · replace h := (if_neg c_1).symm.trans h
    refine lv_aload_n hx hb dX6_tell_18 rfl (lv_at hl 0 rfl) ?_
    refine w_get (v := .ref (am 1)) C hinRX6 hI X.length wM_ob rfl 0 (by decide) lk9 rfl rfl dX6_tell_19 ?_
    refine lv_bipush (v := 104) hx hb dX6_tell_22 (by decide) ?_
    refine lv_aload_n hx hb dX6_tell_24 rfl (lv_at hl 0 rfl) ?_
    refine w_get (v := .ref (am 1)) C hinRX6 hI X.length wM_ob rfl 0 (by decide) lk9 rfl rfl dX6_tell_25 ?_
    refine lv_iconst (v := 1) hx hb dX6_tell_28 (by decide) ?_
    refine w_ldK C hI (X.length + (0 + 1)) (wM_ar (by decide)) 1 (by decide) (by decide) dX6_tell_29 ?_
    refine lv_iadd hx hb dX6_tell_30 ?_
    refine lv_iload_n hx hb dX6_tell_31 rfl (lv_at hl 1 rfl) ?_
    refine w_st C hI (X.length + (0 + 1)) (wM_ar (by decide)) (wM_setar (by decide)) h dX6_tell_32 (fun st_2 H locs h hI => ?_)
    refine lv_aload_n hx hb dX6_tell_33 rfl (lv_at hl 0 rfl) ?_
    refine w_get (v := .ref (am 1)) C hinRX6 hI X.length wM_ob rfl 0 (by decide) lk9 rfl rfl dX6_tell_34 ?_
    refine lv_iconst (v := 1) hx hb dX6_tell_37 (by decide) ?_
    refine lv_dup2_11 hx hb dX6_tell_38 rfl rfl ?_
    refine w_ldK C hI (X.length + (0 + 1)) (wM_ar (by decide)) 1 (by decide) (by decide) dX6_tell_39 ?_
    refine lv_iconst (v := 1) hx hb dX6_tell_40 (by decide) ?_
    refine lv_iadd hx hb dX6_tell_41 ?_
    refine w_stK C hI (X.length + (0 + 1)) (wM_ar (by decide)) (wM_setar (by decide)) 1 h (by decide) (by decide) dX6_tell_42 (fun st_3 H locs h hI => ?_)
    refine lv_aload_n hx hb dX6_tell_43 rfl (lv_at hl 0 rfl) ?_
    refine w_get (v := .ref (am 1)) C hinRX6 hI X.length wM_ob rfl 0 (by decide) lk9 rfl rfl dX6_tell_44 ?_
    refine lv_iconst (v := 1) hx hb dX6_tell_47 (by decide) ?_
    refine w_ldK C hI (X.length + (0 + 1)) (wM_ar (by decide)) 1 (by decide) (by decide) dX6_tell_48 ?_
    obtain ⟨rfl, rfl⟩ := ret2 h
    exact hret H locs _ ls hI dX6_tell_49
  · replace h := (if_pos c_1).symm.trans h
    refine lv_aload_n hx hb dX6_tell_11 rfl (lv_at hl 0 rfl) ?_
    refine lv_ldc (v := (-100005)) hx hb hown lc53 dX6_tell_12 ?_
    obtain ⟨r_5, st_6, hr_4, h⟩ := bd2_some h
    refine callV_I (rest := []) C hI (c_X6_finding l g X am (-100005 : Int32) st hr_4) (cwV 1 hts gX6_tell_X6_finding rfl rfl rfl hv_X6_finding ⟨Nat.le_of_ble_eq_true rfl, Nat.le_of_ble_eq_true rfl⟩) (w_recv C hI X.length wM_ob rfl) rfl hl.1 rfl (Nat.le_of_ble_eq_true rfl) dX6_tell_14 (fun H locs hI => ?_)
    obtain ⟨rfl, rfl⟩ := ret2 h
    exact hret H locs _ ls hI dX6_tell_17
theorem hv_X6_tell : yX6_tell.cls = RX6 ∧ yX6_tell.cls ≠ "java/lang/invoke/MethodHandle" ∧ yX6_tell.cls ≠ "java/lang/invoke/VarHandle" ∧ (parseMethodDescriptor yX6_tell.desc).map (fun d => d.parameters.length) = some 1 := by decide +kernel
/-! X6_check -/
def rmX6_check : Room := { frames := 3, cells := 0, slots := 0, locals := 73 }
def f_X6_check_L34 (N : Nat) (x1 : Int32) (k : Int32 → Int32 → St → Option (Int32 × St)) : Nat → Int32 → Int32 → St → Option (Int32 × St)
  | 0, _, _, _ => none
  | n + 1, x2, x3, st => if st 0 0 ≤ x3 then k x2 x3 st else if x1 ≤ x3 then bnd (f_X6_isGrave st (-1 : Int32)) fun r_6 => if b2i r_6 = 0 then some ((-1 : Int32) - x3, st) else if (x2 >>> ((-1 : Int32) &&& 31)) &&& (1 : Int32) = 1 then some ((-1 : Int32) - x3, st) else bd1 (f_X6_below N st (-1 : Int32)) fun r_10 => if r_10 &&& (x2 ^^^ (-1 : Int32)) = 0 then sto 10 st 7 x3 (-1 : Int32) fun st_12 => bnd (x2 ||| ((1 : Int32) <<< ((-1 : Int32) &&& 31))) fun v_13 => f_X6_check_L34 N x1 k n v_13 (x3 + 1) st_12 else some ((-1 : Int32) - x3, st) else ck 116 (104 + x3) fun j_14 => bnd (st 0 j_14) fun v_15 => bnd (f_X6_isGrave st v_15) fun r_16 => if b2i r_16 = 0 then some ((-1 : Int32) - x3, st) else if (x2 >>> (v_15 &&& 31)) &&& (1 : Int32) = 1 then some ((-1 : Int32) - x3, st) else bd1 (f_X6_below N st v_15) fun r_20 => if r_20 &&& (x2 ^^^ (-1 : Int32)) = 0 then sto 10 st 7 x3 v_15 fun st_22 => bnd (x2 ||| ((1 : Int32) <<< (v_15 &&& 31))) fun v_23 => f_X6_check_L34 N x1 k n v_23 (x3 + 1) st_22 else some ((-1 : Int32) - x3, st)
def f_X6_check (N : Nat) (st : St) : Option (Int32 × St) := bnd (st 0 1) fun v_1 => bnd (sU st 0 1 0) fun st_2 => if st_2 0 0 = 0 then bd2 (f_X6_finding st_2 (-100006 : Int32)) fun r_31 st_32 => some (r_31, st_32) else f_X6_check_L34 N v_1 (fun a_24 a_25 st_26 => if v_1 ≤ st_26 0 0 then bd1 (f_X6_holesIn N st_26 7 4095) fun r_29 => some (r_29, st_26) else some (-12, st_26)) N 0 0 st_2
set_option maxHeartbeats 4000000 in
set_option maxRecDepth 100000 in
theorem wl_X6_check_L34 {p : Program} {l : Launch} {e : Env} {s : State} {m : MethodId} {args : Array Value} {below : List Frame} {meth : Method} {c : Code} {Q : State → Prop} {A : Nat → Prop} {g : GP} {X : va_W} {am : Nat → Nat} {r : Int32} {st' : St} (C : Cx p s m args c cX6_check 5 wsX6_check RX6 g A) (hret : RetI p l e rmX6_check s m args below meth c Q cX6_check g A (wMX g X am st') (r)) (N : Nat) (x1 : Int32)  (k : Int32 → Int32 → St → Option (Int32 × St)) (hk : ∀ (x2 : Int32) (x3 : Int32) (st : St) (H : Heap) (locs : List Loc) (ls : Array Slot), k x2 x3 st = some (r, st') → IW g A s.heap (wMX g X am st) H locs → lv_has ls 5 [(0, .ref (am 0)), (1, .int x1), (2, .int x2), (3, .int x3)] → W p l e rmX6_check s m args below meth c H locs 0 0 Q (F0 m 121 ls [])) : ∀ (n : Nat) (x2 : Int32) (x3 : Int32) (st : St) (H : Heap) (locs : List Loc) (ls : Array Slot), f_X6_check_L34 N x1 k n x2 x3 st = some (r, st') → IW g A s.heap (wMX g X am st) H locs → lv_has ls 5 [(0, .ref (am 0)), (1, .int x1), (2, .int x2), (3, .int x3)] → W p l e rmX6_check s m args below meth c H locs 0 0 Q (F0 m 34 ls []) := by
  obtain ⟨hx, hb, hml, hown, hts⟩ := id C.1
  have hinRX6 : ∀ w ∈ u_ws RX6 TX6 16, w ∈ wsX6_check := by decide +kernel
  have lk9 := hts (.fieldLink RX6 9 "GraveRowsModel" "now" "[I") (by decide +kernel)
  have lk31 := hts (.fieldLink RX6 31 "GraveRowsModel" "row" "[I") (by decide +kernel)
  intro n
  induction n with
  | zero =>
    intro x2 x3 st H locs ls h hI hl
    rw [f_X6_check_L34] at h
    cases h
  | succ n ih =>
    intro x2 x3 st H locs ls h hI hl
    rw [f_X6_check_L34] at h
    refine lv_iload_n hx hb dX6_check_34 rfl (lv_at hl 3 rfl) ?_
    refine lv_aload_n hx hb dX6_check_35 rfl (lv_at hl 0 rfl) ?_
    refine w_get (v := .ref (am 1)) C hinRX6 hI X.length wM_ob rfl 0 (by decide) lk9 rfl rfl dX6_check_36 ?_
    refine lv_iconst (v := 0) hx hb dX6_check_39 (by decide) ?_
    refine w_ldK C hI (X.length + (0 + 1)) (wM_ar (by decide)) 0 (by decide) (by decide) dX6_check_40 ?_
    refine lv_icmp_ge (tgt := 121) hx hb dX6_check_41 (by decide) (fun c_4 => ?_) (fun c_4 => ?_)
    · replace h := (if_pos c_4).symm.trans h
      exact hk _ _ _ _ _ _ h hI (lv_sub hl [0, 1, 2, 3] rfl)
    · replace h := (if_neg c_4).symm.trans h
      refine lv_iload_n hx hb dX6_check_44 rfl (lv_at hl 3 rfl) ?_
      refine lv_iload_n hx hb dX6_check_45 rfl (lv_at hl 1 rfl) ?_
      refine lv_icmp_ge (tgt := 61) hx hb dX6_check_46 (by decide) (fun c_5 => ?_) (fun c_5 => ?_)
      · replace h := (if_pos c_5).symm.trans h
        refine lv_iconst (v := (-1)) hx hb dX6_check_61 (by decide) ?_
        refine lv_istore (lv' := [(4, .int (-1 : Int32)), (0, .ref (am 0)), (1, .int x1), (2, .int x2), (3, .int x3)]) hx hb dX6_check_62 hl (by decide) rfl (fun ls hl => ?_)
        refine lv_aload_n hx hb dX6_check_64 rfl (lv_at hl 1 rfl) ?_
        refine lv_iload hx hb dX6_check_65 (lv_at hl 0 rfl) ?_
        refine callV_I (rest := []) C hI (c_X6_isGrave l g X am (-1 : Int32) st) (cwV 1 hts gX6_check_X6_isGrave rfl rfl rfl hv_X6_isGrave ⟨Nat.le_of_ble_eq_true rfl, Nat.le_of_ble_eq_true rfl⟩) (w_recv C hI X.length wM_ob rfl) rfl hl.1 rfl (Nat.le_of_ble_eq_true rfl) dX6_check_67 (fun H locs hI => ?_)
        refine gen_b h (fun r_6 h => ?_)
        refine lv_if_eq (tgt := 96) hx hb dX6_check_70 (by decide) (fun c_7 => ?_) (fun c_7 => ?_)
        · replace h := (if_pos c_7).symm.trans h
          refine lv_iconst (v := (-1)) hx hb dX6_check_96 (by decide) ?_
          refine lv_iload_n hx hb dX6_check_97 rfl (lv_at hl 4 rfl) ?_
          refine lv_isub hx hb dX6_check_98 ?_
          obtain ⟨rfl, rfl⟩ := ret2 h
          exact hret H locs _ ls hI dX6_check_99
        · replace h := (if_neg c_7).symm.trans h
          refine lv_iload_n hx hb dX6_check_73 rfl (lv_at hl 3 rfl) ?_
          refine lv_iload hx hb dX6_check_74 (lv_at hl 0 rfl) ?_
          refine lv_ishr hx hb dX6_check_76 ?_
          refine lv_iconst (v := 1) hx hb dX6_check_77 (by decide) ?_
          refine lv_iand hx hb dX6_check_78 ?_
          refine lv_iconst (v := 1) hx hb dX6_check_79 (by decide) ?_
          refine lv_icmp_eq (tgt := 96) hx hb dX6_check_80 (by decide) (fun c_8 => ?_) (fun c_8 => ?_)
          · replace h := (if_pos c_8).symm.trans h
            refine lv_iconst (v := (-1)) hx hb dX6_check_96 (by decide) ?_
            refine lv_iload_n hx hb dX6_check_97 rfl (lv_at hl 4 rfl) ?_
            refine lv_isub hx hb dX6_check_98 ?_
            obtain ⟨rfl, rfl⟩ := ret2 h
            exact hret H locs _ ls hI dX6_check_99
          · replace h := (if_neg c_8).symm.trans h
            refine lv_aload_n hx hb dX6_check_83 rfl (lv_at hl 1 rfl) ?_
            refine lv_iload hx hb dX6_check_84 (lv_at hl 0 rfl) ?_
            obtain ⟨r_10, hr_9, h⟩ := bd1_some h
            refine callV_I (rest := []) C hI (c_X6_below l g X am N (-1 : Int32) st hr_9) (cwV 1 hts gX6_check_X6_below rfl rfl rfl hv_X6_below ⟨Nat.le_of_ble_eq_true rfl, Nat.le_of_ble_eq_true rfl⟩) (w_recv C hI X.length wM_ob rfl) rfl hl.1 rfl (Nat.le_of_ble_eq_true rfl) dX6_check_86 (fun H locs hI => ?_)
            refine lv_iload_n hx hb dX6_check_89 rfl (lv_at hl 3 rfl) ?_
            refine lv_iconst (v := (-1)) hx hb dX6_check_90 (by decide) ?_
            refine lv_ixor hx hb dX6_check_91 ?_
            refine lv_iand hx hb dX6_check_92 ?_
            refine lv_if_eq (tgt := 100) hx hb dX6_check_93 (by decide) (fun c_11 => ?_) (fun c_11 => ?_)
            · replace h := (if_pos c_11).symm.trans h
              refine lv_aload_n hx hb dX6_check_100 rfl (lv_at hl 1 rfl) ?_
              refine w_get (v := .ref (am 8)) C hinRX6 hI X.length wM_ob rfl 11 (by decide) lk31 rfl rfl dX6_check_101 ?_
              refine lv_iload_n hx hb dX6_check_104 rfl (lv_at hl 4 rfl) ?_
              refine lv_iload hx hb dX6_check_105 (lv_at hl 0 rfl) ?_
              refine w_st C hI (X.length + (7 + 1)) (wM_ar (by decide)) (wM_setar (by decide)) h dX6_check_107 (fun st_12 H locs h hI => ?_)
              refine lv_iload_n hx hb dX6_check_108 rfl (lv_at hl 3 rfl) ?_
              refine lv_iconst (v := 1) hx hb dX6_check_109 (by decide) ?_
              refine lv_iload hx hb dX6_check_110 (lv_at hl 0 rfl) ?_
              refine lv_ishl hx hb dX6_check_112 ?_
              refine lv_ior hx hb dX6_check_113 ?_
              refine gen_i h (fun v_13 h => ?_)
              refine lv_istore_n (lv' := [(2, .int v_13), (4, .int (-1 : Int32)), (0, .ref (am 0)), (1, .int x1), (3, .int x3)]) hx hb dX6_check_114 rfl hl (by decide) rfl (fun ls hl => ?_)
              refine lv_iinc (v := x3 + 1) (lv' := [(3, .int (x3 + 1)), (2, .int v_13), (4, .int (-1 : Int32)), (0, .ref (am 0)), (1, .int x1)]) hx hb dX6_check_115 hl (k := 4) rfl rfl (by decide) rfl (fun ls hl => ?_)
              refine lv_goto (tgt := 34) hx hb dX6_check_118 (by decide) ?_
              exact ih _ _ _ _ _ _ h hI (lv_sub hl [3, 4, 1, 0] rfl)
            · replace h := (if_neg c_11).symm.trans h
              refine lv_iconst (v := (-1)) hx hb dX6_check_96 (by decide) ?_
              refine lv_iload_n hx hb dX6_check_97 rfl (lv_at hl 4 rfl) ?_
              refine lv_isub hx hb dX6_check_98 ?_
              obtain ⟨rfl, rfl⟩ := ret2 h
              exact hret H locs _ ls hI dX6_check_99
      · replace h := (if_neg c_5).symm.trans h
        refine lv_aload_n hx hb dX6_check_49 rfl (lv_at hl 0 rfl) ?_
        refine w_get (v := .ref (am 1)) C hinRX6 hI X.length wM_ob rfl 0 (by decide) lk9 rfl rfl dX6_check_50 ?_
        refine lv_bipush (v := 104) hx hb dX6_check_53 (by decide) ?_
        refine lv_iload_n hx hb dX6_check_55 rfl (lv_at hl 3 rfl) ?_
        refine lv_iadd hx hb dX6_check_56 ?_
        refine w_ld C hI (X.length + (0 + 1)) (wM_ar (by decide)) h dX6_check_57 (fun j_14 hj_14 h => ?_)
        refine lv_goto (tgt := 62) hx hb dX6_check_58 (by decide) ?_
        refine gen_i h (fun v_15 h => ?_)
        refine lv_istore (lv' := [(4, .int v_15), (0, .ref (am 0)), (1, .int x1), (2, .int x2), (3, .int x3)]) hx hb dX6_check_62 hl (by decide) rfl (fun ls hl => ?_)
        refine lv_aload_n hx hb dX6_check_64 rfl (lv_at hl 1 rfl) ?_
        refine lv_iload hx hb dX6_check_65 (lv_at hl 0 rfl) ?_
        refine callV_I (rest := []) C hI (c_X6_isGrave l g X am v_15 st) (cwV 1 hts gX6_check_X6_isGrave rfl rfl rfl hv_X6_isGrave ⟨Nat.le_of_ble_eq_true rfl, Nat.le_of_ble_eq_true rfl⟩) (w_recv C hI X.length wM_ob rfl) rfl hl.1 rfl (Nat.le_of_ble_eq_true rfl) dX6_check_67 (fun H locs hI => ?_)
        refine gen_b h (fun r_16 h => ?_)
        refine lv_if_eq (tgt := 96) hx hb dX6_check_70 (by decide) (fun c_17 => ?_) (fun c_17 => ?_)
        · replace h := (if_pos c_17).symm.trans h
          refine lv_iconst (v := (-1)) hx hb dX6_check_96 (by decide) ?_
          refine lv_iload_n hx hb dX6_check_97 rfl (lv_at hl 4 rfl) ?_
          refine lv_isub hx hb dX6_check_98 ?_
          obtain ⟨rfl, rfl⟩ := ret2 h
          exact hret H locs _ ls hI dX6_check_99
        · replace h := (if_neg c_17).symm.trans h
          refine lv_iload_n hx hb dX6_check_73 rfl (lv_at hl 3 rfl) ?_
          refine lv_iload hx hb dX6_check_74 (lv_at hl 0 rfl) ?_
          refine lv_ishr hx hb dX6_check_76 ?_
          refine lv_iconst (v := 1) hx hb dX6_check_77 (by decide) ?_
          refine lv_iand hx hb dX6_check_78 ?_
          refine lv_iconst (v := 1) hx hb dX6_check_79 (by decide) ?_
          refine lv_icmp_eq (tgt := 96) hx hb dX6_check_80 (by decide) (fun c_18 => ?_) (fun c_18 => ?_)
          · replace h := (if_pos c_18).symm.trans h
            refine lv_iconst (v := (-1)) hx hb dX6_check_96 (by decide) ?_
            refine lv_iload_n hx hb dX6_check_97 rfl (lv_at hl 4 rfl) ?_
            refine lv_isub hx hb dX6_check_98 ?_
            obtain ⟨rfl, rfl⟩ := ret2 h
            exact hret H locs _ ls hI dX6_check_99
          · replace h := (if_neg c_18).symm.trans h
            refine lv_aload_n hx hb dX6_check_83 rfl (lv_at hl 1 rfl) ?_
            refine lv_iload hx hb dX6_check_84 (lv_at hl 0 rfl) ?_
            obtain ⟨r_20, hr_19, h⟩ := bd1_some h
            refine callV_I (rest := []) C hI (c_X6_below l g X am N v_15 st hr_19) (cwV 1 hts gX6_check_X6_below rfl rfl rfl hv_X6_below ⟨Nat.le_of_ble_eq_true rfl, Nat.le_of_ble_eq_true rfl⟩) (w_recv C hI X.length wM_ob rfl) rfl hl.1 rfl (Nat.le_of_ble_eq_true rfl) dX6_check_86 (fun H locs hI => ?_)
            refine lv_iload_n hx hb dX6_check_89 rfl (lv_at hl 3 rfl) ?_
            refine lv_iconst (v := (-1)) hx hb dX6_check_90 (by decide) ?_
            refine lv_ixor hx hb dX6_check_91 ?_
            refine lv_iand hx hb dX6_check_92 ?_
            refine lv_if_eq (tgt := 100) hx hb dX6_check_93 (by decide) (fun c_21 => ?_) (fun c_21 => ?_)
            · replace h := (if_pos c_21).symm.trans h
              refine lv_aload_n hx hb dX6_check_100 rfl (lv_at hl 1 rfl) ?_
              refine w_get (v := .ref (am 8)) C hinRX6 hI X.length wM_ob rfl 11 (by decide) lk31 rfl rfl dX6_check_101 ?_
              refine lv_iload_n hx hb dX6_check_104 rfl (lv_at hl 4 rfl) ?_
              refine lv_iload hx hb dX6_check_105 (lv_at hl 0 rfl) ?_
              refine w_st C hI (X.length + (7 + 1)) (wM_ar (by decide)) (wM_setar (by decide)) h dX6_check_107 (fun st_22 H locs h hI => ?_)
              refine lv_iload_n hx hb dX6_check_108 rfl (lv_at hl 3 rfl) ?_
              refine lv_iconst (v := 1) hx hb dX6_check_109 (by decide) ?_
              refine lv_iload hx hb dX6_check_110 (lv_at hl 0 rfl) ?_
              refine lv_ishl hx hb dX6_check_112 ?_
              refine lv_ior hx hb dX6_check_113 ?_
              refine gen_i h (fun v_23 h => ?_)
              refine lv_istore_n (lv' := [(2, .int v_23), (4, .int v_15), (0, .ref (am 0)), (1, .int x1), (3, .int x3)]) hx hb dX6_check_114 rfl hl (by decide) rfl (fun ls hl => ?_)
              refine lv_iinc (v := x3 + 1) (lv' := [(3, .int (x3 + 1)), (2, .int v_23), (4, .int v_15), (0, .ref (am 0)), (1, .int x1)]) hx hb dX6_check_115 hl (k := 4) rfl rfl (by decide) rfl (fun ls hl => ?_)
              refine lv_goto (tgt := 34) hx hb dX6_check_118 (by decide) ?_
              exact ih _ _ _ _ _ _ h hI (lv_sub hl [3, 4, 1, 0] rfl)
            · replace h := (if_neg c_21).symm.trans h
              refine lv_iconst (v := (-1)) hx hb dX6_check_96 (by decide) ?_
              refine lv_iload_n hx hb dX6_check_97 rfl (lv_at hl 4 rfl) ?_
              refine lv_isub hx hb dX6_check_98 ?_
              obtain ⟨rfl, rfl⟩ := ret2 h
              exact hret H locs _ ls hI dX6_check_99
set_option maxHeartbeats 4000000 in
set_option maxRecDepth 100000 in
theorem c_X6_check (l : Launch) (g : GP) (X : va_W) (am : Nat → Nat) (N : Nat)  (st : St) {r : Int32} {st' : St} (h : f_X6_check N st = some (r, st')) : MetI l yX6_check wsX6_check rmX6_check g (wMX g X am) [.ref (am 0)] st (r) st' := by
  refine metI_of (cc := cX6_check) (nL := 5) (ty := .int) (by decide) rfl (Nat.le_of_ble_eq_true rfl) rfl ?_
  intro p e s m below meth c Q A C hret H locs hI ls hl
  have C : Cx p s m _ c cX6_check 5 wsX6_check RX6 g A := C
  obtain ⟨hx, hb, hml, hown, hts⟩ := id C.1
  have hl : lv_has ls 5 [(0, .ref (am 0))] := hl
  have hinRX6 : ∀ w ∈ u_ws RX6 TX6 16, w ∈ wsX6_check := by decide +kernel
  have lk9 := hts (.fieldLink RX6 9 "GraveRowsModel" "now" "[I") (by decide +kernel)
  have lk31 := hts (.fieldLink RX6 31 "GraveRowsModel" "row" "[I") (by decide +kernel)
  have lc83 := hts (.constant RX6 83 (-100006)) (by decide +kernel)
  rw [f_X6_check] at h
  refine lv_aload_n hx hb dX6_check_0 rfl (lv_at hl 0 rfl) ?_
  refine w_get (v := .ref (am 1)) C hinRX6 hI X.length wM_ob rfl 0 (by decide) lk9 rfl rfl dX6_check_1 ?_
  refine lv_iconst (v := 1) hx hb dX6_check_4 (by decide) ?_
  refine w_ldK C hI (X.length + (0 + 1)) (wM_ar (by decide)) 1 (by decide) (by decide) dX6_check_5 ?_
  refine gen_i h (fun v_1 h => ?_)
  refine lv_istore_n (lv' := [(1, .int v_1), (0, .ref (am 0))]) hx hb dX6_check_6 rfl hl (by decide) rfl (fun ls hl => ?_)
  refine lv_aload_n hx hb dX6_check_7 rfl (lv_at hl 1 rfl) ?_
  refine w_get (v := .ref (am 1)) C hinRX6 hI X.length wM_ob rfl 0 (by decide) lk9 rfl rfl dX6_check_8 ?_
  refine lv_iconst (v := 1) hx hb dX6_check_11 (by decide) ?_
  refine lv_iconst (v := 0) hx hb dX6_check_12 (by decide) ?_
  refine w_stK C hI (X.length + (0 + 1)) (wM_ar (by decide)) (wM_setar (by decide)) 1 h (by decide) (by decide) dX6_check_13 (fun st_2 H locs h hI => ?_)
  refine lv_aload_n hx hb dX6_check_14 rfl (lv_at hl 1 rfl) ?_
  refine w_get (v := .ref (am 1)) C hinRX6 hI X.length wM_ob rfl 0 (by decide) lk9 rfl rfl dX6_check_15 ?_
  refine lv_iconst (v := 0) hx hb dX6_check_18 (by decide) ?_
  refine w_ldK C hI (X.length + (0 + 1)) (wM_ar (by decide)) 0 (by decide) (by decide) dX6_check_19 ?_
  refine lv_if_ne (tgt := 30) hx hb dX6_check_20 (by decide) (fun c_3 => ?_) (fun c_3 => ?_)
  · replace h := (if_neg c_3).symm.trans h
    refine lv_iconst (v := 0) hx hb dX6_check_30 (by decide) ?_
    refine lv_istore_n (lv' := [(2, .int 0), (1, .int v_1), (0, .ref (am 0))]) hx hb dX6_check_31 rfl hl (by decide) rfl (fun ls hl => ?_)
    refine lv_iconst (v := 0) hx hb dX6_check_32 (by decide) ?_
    refine lv_istore_n (lv' := [(3, .int 0), (2, .int 0), (1, .int v_1), (0, .ref (am 0))]) hx hb dX6_check_33 rfl hl (by decide) rfl (fun ls hl => ?_)
    refine wl_X6_check_L34 C hret N v_1 _ (fun a_24 a_25 st_26 H locs ls h hI hl => ?_) N 0 0 st_2 H locs ls h hI (lv_sub hl [3, 2, 1, 0] rfl)
    refine lv_iload_n hx hb dX6_check_121 rfl (lv_at hl 1 rfl) ?_
    refine lv_aload_n hx hb dX6_check_122 rfl (lv_at hl 0 rfl) ?_
    refine w_get (v := .ref (am 1)) C hinRX6 hI X.length wM_ob rfl 0 (by decide) lk9 rfl rfl dX6_check_123 ?_
    refine lv_iconst (v := 0) hx hb dX6_check_126 (by decide) ?_
    refine w_ldK C hI (X.length + (0 + 1)) (wM_ar (by decide)) 0 (by decide) (by decide) dX6_check_127 ?_
    refine lv_icmp_le (tgt := 136) hx hb dX6_check_128 (by decide) (fun c_27 => ?_) (fun c_27 => ?_)
    · replace h := (if_pos c_27).symm.trans h
      refine lv_aload_n hx hb dX6_check_136 rfl (lv_at hl 0 rfl) ?_
      refine lv_aload_n hx hb dX6_check_137 rfl (lv_at hl 0 rfl) ?_
      refine w_get (v := .ref (am 8)) C hinRX6 hI X.length wM_ob rfl 11 (by decide) lk31 rfl rfl dX6_check_138 ?_
      refine lv_sipush (v := 4095) hx hb dX6_check_141 (by decide) ?_
      obtain ⟨r_29, hr_28, h⟩ := bd1_some h
      refine callV_I (rest := []) C hI (c_X6_holesIn l g X am N 7 4095 (by decide) st_26 hr_28) (cwV 2 hts gX6_check_X6_holesIn rfl rfl rfl hv_X6_holesIn ⟨Nat.le_of_ble_eq_true rfl, Nat.le_of_ble_eq_true rfl⟩) (w_recv C hI X.length wM_ob rfl) rfl hl.1 rfl (Nat.le_of_ble_eq_true rfl) dX6_check_144 (fun H locs hI => ?_)
      obtain ⟨rfl, rfl⟩ := ret2 h
      exact hret H locs _ ls hI dX6_check_147
    · replace h := (if_neg c_27).symm.trans h
      refine lv_bipush (v := (-12)) hx hb dX6_check_131 (by decide) ?_
      refine lv_goto (tgt := 147) hx hb dX6_check_133 (by decide) ?_
      obtain ⟨rfl, rfl⟩ := ret2 h
      exact hret H locs _ ls hI dX6_check_147
  · replace h := (if_pos c_3).symm.trans h
    refine lv_aload_n hx hb dX6_check_23 rfl (lv_at hl 1 rfl) ?_
    refine lv_ldc (v := (-100006)) hx hb hown lc83 dX6_check_24 ?_
    obtain ⟨r_31, st_32, hr_30, h⟩ := bd2_some h
    refine callV_I (rest := []) C hI (c_X6_finding l g X am (-100006 : Int32) st_2 hr_30) (cwV 1 hts gX6_check_X6_finding rfl rfl rfl hv_X6_finding ⟨Nat.le_of_ble_eq_true rfl, Nat.le_of_ble_eq_true rfl⟩) (w_recv C hI X.length wM_ob rfl) rfl hl.1 rfl (Nat.le_of_ble_eq_true rfl) dX6_check_26 (fun H locs hI => ?_)
    obtain ⟨rfl, rfl⟩ := ret2 h
    exact hret H locs _ ls hI dX6_check_29
theorem hv_X6_check : yX6_check.cls = RX6 ∧ yX6_check.cls ≠ "java/lang/invoke/MethodHandle" ∧ yX6_check.cls ≠ "java/lang/invoke/VarHandle" ∧ (parseMethodDescriptor yX6_check.desc).map (fun d => d.parameters.length) = some 0 := by decide +kernel
/-! X6_without -/
def rmX6_without : Room := { frames := 3, cells := 0, slots := 0, locals := 73 }
def f_X6_without (N : Nat) (st : St) (x1 : Int32) : Option (Int32 × St) := bnd (f_X6_isGood x1) fun r_1 => if b2i r_1 = 0 then bd2 (f_X6_finding st (-100001 : Int32)) fun r_12 st_13 => some (r_12, st_13) else bnd (f_X6_noOrder st) fun r_3 => if r_3 = 0 then bd1 (f_X6_search N st ((4095 : Int32) &&& (((1 : Int32) <<< (x1 &&& 31)) ^^^ (-1 : Int32)))) fun st_6 => some (st_6 10 2, st_6) else bnd (f_X6_noOrder st) fun r_7 => bd2 (f_X6_finding st r_7) fun r_9 st_10 => some (r_9, st_10)
set_option maxHeartbeats 4000000 in
set_option maxRecDepth 100000 in
theorem c_X6_without (l : Launch) (g : GP) (X : va_W) (am : Nat → Nat) (N : Nat) (x1 : Int32)  (st : St) {r : Int32} {st' : St} (h : f_X6_without N st x1 = some (r, st')) : MetI l yX6_without wsX6_without rmX6_without g (wMX g X am) [.ref (am 0), .int x1] st (r) st' := by
  refine metI_of (cc := cX6_without) (nL := 2) (ty := .int) (by decide) rfl (Nat.le_of_ble_eq_true rfl) rfl ?_
  intro p e s m below meth c Q A C hret H locs hI ls hl
  have C : Cx p s m _ c cX6_without 2 wsX6_without RX6 g A := C
  obtain ⟨hx, hb, hml, hown, hts⟩ := id C.1
  have hl : lv_has ls 2 [(0, .ref (am 0)), (1, .int x1)] := hl
  have hinRX6 : ∀ w ∈ u_ws RX6 TX6 16, w ∈ wsX6_without := by decide +kernel
  have lk92 := hts (.fieldLink RX6 92 "GraveRowsModel" "least" "I") (by decide +kernel)
  have lc48 := hts (.constant RX6 48 (-100001)) (by decide +kernel)
  rw [f_X6_without] at h
  refine lv_iload_n hx hb dX6_without_0 rfl (lv_at hl 1 rfl) ?_
  refine callS_S (rest := []) C.1 (c_X6_isGood l x1) (va_cwS 1 hts gX6_without_X6_isGood rfl rfl rfl hd_X6_isGood ⟨Nat.le_of_ble_eq_true rfl, Nat.le_of_ble_eq_true rfl⟩) rfl hl.1 rfl (Nat.le_of_ble_eq_true rfl) dX6_without_1 ?_
  refine gen_b h (fun r_1 h => ?_)
  refine lv_if_ne (tgt := 14) hx hb dX6_without_4 (by decide) (fun c_2 => ?_) (fun c_2 => ?_)
  · replace h := (if_neg c_2).symm.trans h
    refine lv_aload_n hx hb dX6_without_14 rfl (lv_at hl 0 rfl) ?_
    refine callV_I (rest := []) C hI (c_X6_noOrder l g X am st) (cwV 0 hts gX6_without_X6_noOrder rfl rfl rfl hv_X6_noOrder ⟨Nat.le_of_ble_eq_true rfl, Nat.le_of_ble_eq_true rfl⟩) (w_recv C hI X.length wM_ob rfl) rfl hl.1 rfl (Nat.le_of_ble_eq_true rfl) dX6_without_15 (fun H locs hI => ?_)
    refine gen_i h (fun r_3 h => ?_)
    refine lv_if_eq (tgt := 30) hx hb dX6_without_18 (by decide) (fun c_4 => ?_) (fun c_4 => ?_)
    · replace h := (if_pos c_4).symm.trans h
      refine lv_aload_n hx hb dX6_without_30 rfl (lv_at hl 0 rfl) ?_
      refine lv_sipush (v := 4095) hx hb dX6_without_31 (by decide) ?_
      refine lv_iconst (v := 1) hx hb dX6_without_34 (by decide) ?_
      refine lv_iload_n hx hb dX6_without_35 rfl (lv_at hl 1 rfl) ?_
      refine lv_ishl hx hb dX6_without_36 ?_
      refine lv_iconst (v := (-1)) hx hb dX6_without_37 (by decide) ?_
      refine lv_ixor hx hb dX6_without_38 ?_
      refine lv_iand hx hb dX6_without_39 ?_
      obtain ⟨st_6, hr_5, h⟩ := bd1_some h
      refine callV_V (rest := []) C hI (c_X6_search l g X am N ((4095 : Int32) &&& (((1 : Int32) <<< (x1 &&& 31)) ^^^ (-1 : Int32))) st hr_5) (cwV 1 hts gX6_without_X6_search rfl rfl rfl hv_X6_search ⟨Nat.le_of_ble_eq_true rfl, Nat.le_of_ble_eq_true rfl⟩) (w_recv C hI X.length wM_ob rfl) rfl hl.1 rfl (Nat.le_of_ble_eq_true rfl) dX6_without_40 (fun H locs hI => ?_)
      refine lv_aload_n hx hb dX6_without_43 rfl (lv_at hl 0 rfl) ?_
      refine w_get (v := .int (st_6 10 2)) C hinRX6 hI X.length wM_ob rfl 8 (by decide) lk92 rfl rfl dX6_without_44 ?_
      obtain ⟨rfl, rfl⟩ := ret2 h
      exact hret H locs _ ls hI dX6_without_47
    · replace h := (if_neg c_4).symm.trans h
      refine lv_aload_n hx hb dX6_without_21 rfl (lv_at hl 0 rfl) ?_
      refine lv_aload_n hx hb dX6_without_22 rfl (lv_at hl 0 rfl) ?_
      refine callV_I (rest := [.ref (am 0)]) C hI (c_X6_noOrder l g X am st) (cwV 0 hts gX6_without_X6_noOrder rfl rfl rfl hv_X6_noOrder ⟨Nat.le_of_ble_eq_true rfl, Nat.le_of_ble_eq_true rfl⟩) (w_recv C hI X.length wM_ob rfl) rfl hl.1 rfl (Nat.le_of_ble_eq_true rfl) dX6_without_23 (fun H locs hI => ?_)
      refine gen_i h (fun r_7 h => ?_)
      obtain ⟨r_9, st_10, hr_8, h⟩ := bd2_some h
      refine callV_I (rest := []) C hI (c_X6_finding l g X am r_7 st hr_8) (cwV 1 hts gX6_without_X6_finding rfl rfl rfl hv_X6_finding ⟨Nat.le_of_ble_eq_true rfl, Nat.le_of_ble_eq_true rfl⟩) (w_recv C hI X.length wM_ob rfl) rfl hl.1 rfl (Nat.le_of_ble_eq_true rfl) dX6_without_26 (fun H locs hI => ?_)
      obtain ⟨rfl, rfl⟩ := ret2 h
      exact hret H locs _ ls hI dX6_without_29
  · replace h := (if_pos c_2).symm.trans h
    refine lv_aload_n hx hb dX6_without_7 rfl (lv_at hl 0 rfl) ?_
    refine lv_ldc (v := (-100001)) hx hb hown lc48 dX6_without_8 ?_
    obtain ⟨r_12, st_13, hr_11, h⟩ := bd2_some h
    refine callV_I (rest := []) C hI (c_X6_finding l g X am (-100001 : Int32) st hr_11) (cwV 1 hts gX6_without_X6_finding rfl rfl rfl hv_X6_finding ⟨Nat.le_of_ble_eq_true rfl, Nat.le_of_ble_eq_true rfl⟩) (w_recv C hI X.length wM_ob rfl) rfl hl.1 rfl (Nat.le_of_ble_eq_true rfl) dX6_without_10 (fun H locs hI => ?_)
    obtain ⟨rfl, rfl⟩ := ret2 h
    exact hret H locs _ ls hI dX6_without_13
theorem hv_X6_without : yX6_without.cls = RX6 ∧ yX6_without.cls ≠ "java/lang/invoke/MethodHandle" ∧ yX6_without.cls ≠ "java/lang/invoke/VarHandle" ∧ (parseMethodDescriptor yX6_without.desc).map (fun d => d.parameters.length) = some 1 := by decide +kernel
/-! X6_ways -/
def rmX6_ways : Room := { frames := 3, cells := 0, slots := 0, locals := 73 }
def f_X6_ways (N : Nat) (st : St) : Option (Int32 × St) := bnd (f_X6_noOrder st) fun r_1 => if r_1 = 0 then bd1 (f_X6_search N st 4095) fun st_4 => some (st_4 10 3, st_4) else bnd (f_X6_noOrder st) fun r_5 => bd2 (f_X6_finding st r_5) fun r_7 st_8 => some (r_7, st_8)
set_option maxHeartbeats 4000000 in
set_option maxRecDepth 100000 in
theorem c_X6_ways (l : Launch) (g : GP) (X : va_W) (am : Nat → Nat) (N : Nat)  (st : St) {r : Int32} {st' : St} (h : f_X6_ways N st = some (r, st')) : MetI l yX6_ways wsX6_ways rmX6_ways g (wMX g X am) [.ref (am 0)] st (r) st' := by
  refine metI_of (cc := cX6_ways) (nL := 1) (ty := .int) (by decide) rfl (Nat.le_of_ble_eq_true rfl) rfl ?_
  intro p e s m below meth c Q A C hret H locs hI ls hl
  have C : Cx p s m _ c cX6_ways 1 wsX6_ways RX6 g A := C
  obtain ⟨hx, hb, hml, hown, hts⟩ := id C.1
  have hl : lv_has ls 1 [(0, .ref (am 0))] := hl
  have hinRX6 : ∀ w ∈ u_ws RX6 TX6 16, w ∈ wsX6_ways := by decide +kernel
  have lk95 := hts (.fieldLink RX6 95 "GraveRowsModel" "ways" "I") (by decide +kernel)
  rw [f_X6_ways] at h
  refine lv_aload_n hx hb dX6_ways_0 rfl (lv_at hl 0 rfl) ?_
  refine callV_I (rest := []) C hI (c_X6_noOrder l g X am st) (cwV 0 hts gX6_ways_X6_noOrder rfl rfl rfl hv_X6_noOrder ⟨Nat.le_of_ble_eq_true rfl, Nat.le_of_ble_eq_true rfl⟩) (w_recv C hI X.length wM_ob rfl) rfl hl.1 rfl (Nat.le_of_ble_eq_true rfl) dX6_ways_1 (fun H locs hI => ?_)
  refine gen_i h (fun r_1 h => ?_)
  refine lv_if_eq (tgt := 16) hx hb dX6_ways_4 (by decide) (fun c_2 => ?_) (fun c_2 => ?_)
  · replace h := (if_pos c_2).symm.trans h
    refine lv_aload_n hx hb dX6_ways_16 rfl (lv_at hl 0 rfl) ?_
    refine lv_sipush (v := 4095) hx hb dX6_ways_17 (by decide) ?_
    obtain ⟨st_4, hr_3, h⟩ := bd1_some h
    refine callV_V (rest := []) C hI (c_X6_search l g X am N 4095 st hr_3) (cwV 1 hts gX6_ways_X6_search rfl rfl rfl hv_X6_search ⟨Nat.le_of_ble_eq_true rfl, Nat.le_of_ble_eq_true rfl⟩) (w_recv C hI X.length wM_ob rfl) rfl hl.1 rfl (Nat.le_of_ble_eq_true rfl) dX6_ways_20 (fun H locs hI => ?_)
    refine lv_aload_n hx hb dX6_ways_23 rfl (lv_at hl 0 rfl) ?_
    refine w_get (v := .int (st_4 10 3)) C hinRX6 hI X.length wM_ob rfl 9 (by decide) lk95 rfl rfl dX6_ways_24 ?_
    obtain ⟨rfl, rfl⟩ := ret2 h
    exact hret H locs _ ls hI dX6_ways_27
  · replace h := (if_neg c_2).symm.trans h
    refine lv_aload_n hx hb dX6_ways_7 rfl (lv_at hl 0 rfl) ?_
    refine lv_aload_n hx hb dX6_ways_8 rfl (lv_at hl 0 rfl) ?_
    refine callV_I (rest := [.ref (am 0)]) C hI (c_X6_noOrder l g X am st) (cwV 0 hts gX6_ways_X6_noOrder rfl rfl rfl hv_X6_noOrder ⟨Nat.le_of_ble_eq_true rfl, Nat.le_of_ble_eq_true rfl⟩) (w_recv C hI X.length wM_ob rfl) rfl hl.1 rfl (Nat.le_of_ble_eq_true rfl) dX6_ways_9 (fun H locs hI => ?_)
    refine gen_i h (fun r_5 h => ?_)
    obtain ⟨r_7, st_8, hr_6, h⟩ := bd2_some h
    refine callV_I (rest := []) C hI (c_X6_finding l g X am r_5 st hr_6) (cwV 1 hts gX6_ways_X6_finding rfl rfl rfl hv_X6_finding ⟨Nat.le_of_ble_eq_true rfl, Nat.le_of_ble_eq_true rfl⟩) (w_recv C hI X.length wM_ob rfl) rfl hl.1 rfl (Nat.le_of_ble_eq_true rfl) dX6_ways_12 (fun H locs hI => ?_)
    obtain ⟨rfl, rfl⟩ := ret2 h
    exact hret H locs _ ls hI dX6_ways_15
theorem hv_X6_ways : yX6_ways.cls = RX6 ∧ yX6_ways.cls ≠ "java/lang/invoke/MethodHandle" ∧ yX6_ways.cls ≠ "java/lang/invoke/VarHandle" ∧ (parseMethodDescriptor yX6_ways.desc).map (fun d => d.parameters.length) = some 0 := by decide +kernel
/-! X6_goesOn -/
def rmX6_goesOn : Room := { frames := 1, cells := 0, slots := 0, locals := 22 }
def f_X6_goesOn_L7 (N : Nat) (x1 : Int32) (st : St) (k : Int32 → Int32 → Int32 → Option (Int32)) : Nat → Int32 → Int32 → Int32 → Option (Int32)
  | 0, _, _, _ => none
  | n + 1, x2, x3, x4 => if st 0 0 ≤ x4 then k x2 x3 x4 else if x1 ≤ x4 then bnd (x2 ||| (0 : Int32)) fun v_3 => if x1 ≤ x4 then ck 10 x4 fun j_5 => ck 116 (32 + (st 6 j_5)) fun j_6 => bnd (x3 ||| (st 0 j_6)) fun v_7 => f_X6_goesOn_L7 N x1 st k n v_3 v_7 (x4 + 1) else bnd (x3 ||| (0 : Int32)) fun v_8 => f_X6_goesOn_L7 N x1 st k n v_3 v_8 (x4 + 1) else ck 10 x4 fun j_9 => ck 116 (32 + (st 6 j_9)) fun j_10 => bnd (x2 ||| (st 0 j_10)) fun v_11 => if x1 ≤ x4 then ck 10 x4 fun j_13 => ck 116 (32 + (st 6 j_13)) fun j_14 => bnd (x3 ||| (st 0 j_14)) fun v_15 => f_X6_goesOn_L7 N x1 st k n v_11 v_15 (x4 + 1) else bnd (x3 ||| (0 : Int32)) fun v_16 => f_X6_goesOn_L7 N x1 st k n v_11 v_16 (x4 + 1)
def f_X6_goesOn (N : Nat) (st : St) (x1 : Int32) : Option (Int32) := f_X6_goesOn_L7 N x1 st (fun a_17 a_18 a_19 => bd1 (f_X6_many N (a_17 &&& a_18)) fun r_21 => some r_21) N 0 0 0
set_option maxHeartbeats 4000000 in
set_option maxRecDepth 100000 in
theorem wl_X6_goesOn_L7 {p : Program} {l : Launch} {e : Env} {s : State} {m : MethodId} {args : Array Value} {below : List Frame} {meth : Method} {c : Code} {Q : State → Prop} {A : Nat → Prop} {g : GP} {X : va_W} {am : Nat → Nat} {r : Int32}  (C : Cx p s m args c cX6_goesOn 5 wsX6_goesOn RX6 g A) (st : St) (hret : RetI p l e rmX6_goesOn s m args below meth c Q cX6_goesOn g A (wMX g X am st) (r)) (N : Nat) (x1 : Int32)  (k : Int32 → Int32 → Int32 → Option (Int32)) (hk : ∀ (x2 : Int32) (x3 : Int32) (x4 : Int32) (H : Heap) (locs : List Loc) (ls : Array Slot), k x2 x3 x4 = some r → IW g A s.heap (wMX g X am st) H locs → lv_has ls 5 [(0, .ref (am 0)), (1, .int x1), (2, .int x2), (3, .int x3), (4, .int x4)] → W p l e rmX6_goesOn s m args below meth c H locs 0 0 Q (F0 m 80 ls [])) : ∀ (n : Nat) (x2 : Int32) (x3 : Int32) (x4 : Int32) (H : Heap) (locs : List Loc) (ls : Array Slot), f_X6_goesOn_L7 N x1 st k n x2 x3 x4 = some r → IW g A s.heap (wMX g X am st) H locs → lv_has ls 5 [(0, .ref (am 0)), (1, .int x1), (2, .int x2), (3, .int x3), (4, .int x4)] → W p l e rmX6_goesOn s m args below meth c H locs 0 0 Q (F0 m 7 ls []) := by
  obtain ⟨hx, hb, hml, hown, hts⟩ := id C.1
  have hinRX6 : ∀ w ∈ u_ws RX6 TX6 16, w ∈ wsX6_goesOn := by decide +kernel
  have lk9 := hts (.fieldLink RX6 9 "GraveRowsModel" "now" "[I") (by decide +kernel)
  have lk28 := hts (.fieldLink RX6 28 "GraveRowsModel" "best" "[I") (by decide +kernel)
  intro n
  induction n with
  | zero =>
    intro x2 x3 x4 H locs ls h hI hl
    rw [f_X6_goesOn_L7] at h
    cases h
  | succ n ih =>
    intro x2 x3 x4 H locs ls h hI hl
    rw [f_X6_goesOn_L7] at h
    refine lv_iload hx hb dX6_goesOn_7 (lv_at hl 4 rfl) ?_
    refine lv_aload_n hx hb dX6_goesOn_9 rfl (lv_at hl 0 rfl) ?_
    refine w_get (v := .ref (am 1)) C hinRX6 hI X.length wM_ob rfl 0 (by decide) lk9 rfl rfl dX6_goesOn_10 ?_
    refine lv_iconst (v := 0) hx hb dX6_goesOn_13 (by decide) ?_
    refine w_ldK C hI (X.length + (0 + 1)) (wM_ar (by decide)) 0 (by decide) (by decide) dX6_goesOn_14 ?_
    refine lv_icmp_ge (tgt := 80) hx hb dX6_goesOn_15 (by decide) (fun c_1 => ?_) (fun c_1 => ?_)
    · replace h := (if_pos c_1).symm.trans h
      exact hk _ _ _ _ _ _ h hI (lv_sub hl [0, 1, 2, 3, 4] rfl)
    · replace h := (if_neg c_1).symm.trans h
      refine lv_iload_n hx hb dX6_goesOn_18 rfl (lv_at hl 2 rfl) ?_
      refine lv_iload hx hb dX6_goesOn_19 (lv_at hl 4 rfl) ?_
      refine lv_iload_n hx hb dX6_goesOn_21 rfl (lv_at hl 1 rfl) ?_
      refine lv_icmp_ge (tgt := 43) hx hb dX6_goesOn_22 (by decide) (fun c_2 => ?_) (fun c_2 => ?_)
      · replace h := (if_pos c_2).symm.trans h
        refine lv_iconst (v := 0) hx hb dX6_goesOn_43 (by decide) ?_
        refine lv_ior hx hb dX6_goesOn_44 ?_
        refine gen_i h (fun v_3 h => ?_)
        refine lv_istore_n (lv' := [(2, .int v_3), (0, .ref (am 0)), (1, .int x1), (3, .int x3), (4, .int x4)]) hx hb dX6_goesOn_45 rfl hl (by decide) rfl (fun ls hl => ?_)
        refine lv_iload_n hx hb dX6_goesOn_46 rfl (lv_at hl 3 rfl) ?_
        refine lv_iload hx hb dX6_goesOn_47 (lv_at hl 4 rfl) ?_
        refine lv_iload_n hx hb dX6_goesOn_49 rfl (lv_at hl 2 rfl) ?_
        refine lv_icmp_ge (tgt := 57) hx hb dX6_goesOn_50 (by decide) (fun c_4 => ?_) (fun c_4 => ?_)
        · replace h := (if_pos c_4).symm.trans h
          refine lv_aload_n hx hb dX6_goesOn_57 rfl (lv_at hl 1 rfl) ?_
          refine w_get (v := .ref (am 1)) C hinRX6 hI X.length wM_ob rfl 0 (by decide) lk9 rfl rfl dX6_goesOn_58 ?_
          refine lv_bipush (v := 32) hx hb dX6_goesOn_61 (by decide) ?_
          refine lv_aload_n hx hb dX6_goesOn_63 rfl (lv_at hl 1 rfl) ?_
          refine w_get (v := .ref (am 7)) C hinRX6 hI X.length wM_ob rfl 10 (by decide) lk28 rfl rfl dX6_goesOn_64 ?_
          refine lv_iload hx hb dX6_goesOn_67 (lv_at hl 4 rfl) ?_
          refine w_ld C hI (X.length + (6 + 1)) (wM_ar (by decide)) h dX6_goesOn_69 (fun j_5 hj_5 h => ?_)
          refine lv_iadd hx hb dX6_goesOn_70 ?_
          refine w_ld C hI (X.length + (0 + 1)) (wM_ar (by decide)) h dX6_goesOn_71 (fun j_6 hj_6 h => ?_)
          refine lv_ior hx hb dX6_goesOn_72 ?_
          refine gen_i h (fun v_7 h => ?_)
          refine lv_istore_n (lv' := [(3, .int v_7), (2, .int v_3), (0, .ref (am 0)), (1, .int x1), (4, .int x4)]) hx hb dX6_goesOn_73 rfl hl (by decide) rfl (fun ls hl => ?_)
          refine lv_iinc (v := x4 + 1) (lv' := [(4, .int (x4 + 1)), (3, .int v_7), (2, .int v_3), (0, .ref (am 0)), (1, .int x1)]) hx hb dX6_goesOn_74 hl (k := 4) rfl rfl (by decide) rfl (fun ls hl => ?_)
          refine lv_goto (tgt := 7) hx hb dX6_goesOn_77 (by decide) ?_
          exact ih _ _ _ _ _ _ h hI (lv_sub hl [3, 4, 2, 1, 0] rfl)
        · replace h := (if_neg c_4).symm.trans h
          refine lv_iconst (v := 0) hx hb dX6_goesOn_53 (by decide) ?_
          refine lv_goto (tgt := 72) hx hb dX6_goesOn_54 (by decide) ?_
          refine lv_ior hx hb dX6_goesOn_72 ?_
          refine gen_i h (fun v_8 h => ?_)
          refine lv_istore_n (lv' := [(3, .int v_8), (2, .int v_3), (0, .ref (am 0)), (1, .int x1), (4, .int x4)]) hx hb dX6_goesOn_73 rfl hl (by decide) rfl (fun ls hl => ?_)
          refine lv_iinc (v := x4 + 1) (lv' := [(4, .int (x4 + 1)), (3, .int v_8), (2, .int v_3), (0, .ref (am 0)), (1, .int x1)]) hx hb dX6_goesOn_74 hl (k := 4) rfl rfl (by decide) rfl (fun ls hl => ?_)
          refine lv_goto (tgt := 7) hx hb dX6_goesOn_77 (by decide) ?_
          exact ih _ _ _ _ _ _ h hI (lv_sub hl [3, 4, 2, 1, 0] rfl)
      · replace h := (if_neg c_2).symm.trans h
        refine lv_aload_n hx hb dX6_goesOn_25 rfl (lv_at hl 0 rfl) ?_
        refine w_get (v := .ref (am 1)) C hinRX6 hI X.length wM_ob rfl 0 (by decide) lk9 rfl rfl dX6_goesOn_26 ?_
        refine lv_bipush (v := 32) hx hb dX6_goesOn_29 (by decide) ?_
        refine lv_aload_n hx hb dX6_goesOn_31 rfl (lv_at hl 0 rfl) ?_
        refine w_get (v := .ref (am 7)) C hinRX6 hI X.length wM_ob rfl 10 (by decide) lk28 rfl rfl dX6_goesOn_32 ?_
        refine lv_iload hx hb dX6_goesOn_35 (lv_at hl 4 rfl) ?_
        refine w_ld C hI (X.length + (6 + 1)) (wM_ar (by decide)) h dX6_goesOn_37 (fun j_9 hj_9 h => ?_)
        refine lv_iadd hx hb dX6_goesOn_38 ?_
        refine w_ld C hI (X.length + (0 + 1)) (wM_ar (by decide)) h dX6_goesOn_39 (fun j_10 hj_10 h => ?_)
        refine lv_goto (tgt := 44) hx hb dX6_goesOn_40 (by decide) ?_
        refine lv_ior hx hb dX6_goesOn_44 ?_
        refine gen_i h (fun v_11 h => ?_)
        refine lv_istore_n (lv' := [(2, .int v_11), (0, .ref (am 0)), (1, .int x1), (3, .int x3), (4, .int x4)]) hx hb dX6_goesOn_45 rfl hl (by decide) rfl (fun ls hl => ?_)
        refine lv_iload_n hx hb dX6_goesOn_46 rfl (lv_at hl 3 rfl) ?_
        refine lv_iload hx hb dX6_goesOn_47 (lv_at hl 4 rfl) ?_
        refine lv_iload_n hx hb dX6_goesOn_49 rfl (lv_at hl 2 rfl) ?_
        refine lv_icmp_ge (tgt := 57) hx hb dX6_goesOn_50 (by decide) (fun c_12 => ?_) (fun c_12 => ?_)
        · replace h := (if_pos c_12).symm.trans h
          refine lv_aload_n hx hb dX6_goesOn_57 rfl (lv_at hl 1 rfl) ?_
          refine w_get (v := .ref (am 1)) C hinRX6 hI X.length wM_ob rfl 0 (by decide) lk9 rfl rfl dX6_goesOn_58 ?_
          refine lv_bipush (v := 32) hx hb dX6_goesOn_61 (by decide) ?_
          refine lv_aload_n hx hb dX6_goesOn_63 rfl (lv_at hl 1 rfl) ?_
          refine w_get (v := .ref (am 7)) C hinRX6 hI X.length wM_ob rfl 10 (by decide) lk28 rfl rfl dX6_goesOn_64 ?_
          refine lv_iload hx hb dX6_goesOn_67 (lv_at hl 4 rfl) ?_
          refine w_ld C hI (X.length + (6 + 1)) (wM_ar (by decide)) h dX6_goesOn_69 (fun j_13 hj_13 h => ?_)
          refine lv_iadd hx hb dX6_goesOn_70 ?_
          refine w_ld C hI (X.length + (0 + 1)) (wM_ar (by decide)) h dX6_goesOn_71 (fun j_14 hj_14 h => ?_)
          refine lv_ior hx hb dX6_goesOn_72 ?_
          refine gen_i h (fun v_15 h => ?_)
          refine lv_istore_n (lv' := [(3, .int v_15), (2, .int v_11), (0, .ref (am 0)), (1, .int x1), (4, .int x4)]) hx hb dX6_goesOn_73 rfl hl (by decide) rfl (fun ls hl => ?_)
          refine lv_iinc (v := x4 + 1) (lv' := [(4, .int (x4 + 1)), (3, .int v_15), (2, .int v_11), (0, .ref (am 0)), (1, .int x1)]) hx hb dX6_goesOn_74 hl (k := 4) rfl rfl (by decide) rfl (fun ls hl => ?_)
          refine lv_goto (tgt := 7) hx hb dX6_goesOn_77 (by decide) ?_
          exact ih _ _ _ _ _ _ h hI (lv_sub hl [3, 4, 2, 1, 0] rfl)
        · replace h := (if_neg c_12).symm.trans h
          refine lv_iconst (v := 0) hx hb dX6_goesOn_53 (by decide) ?_
          refine lv_goto (tgt := 72) hx hb dX6_goesOn_54 (by decide) ?_
          refine lv_ior hx hb dX6_goesOn_72 ?_
          refine gen_i h (fun v_16 h => ?_)
          refine lv_istore_n (lv' := [(3, .int v_16), (2, .int v_11), (0, .ref (am 0)), (1, .int x1), (4, .int x4)]) hx hb dX6_goesOn_73 rfl hl (by decide) rfl (fun ls hl => ?_)
          refine lv_iinc (v := x4 + 1) (lv' := [(4, .int (x4 + 1)), (3, .int v_16), (2, .int v_11), (0, .ref (am 0)), (1, .int x1)]) hx hb dX6_goesOn_74 hl (k := 4) rfl rfl (by decide) rfl (fun ls hl => ?_)
          refine lv_goto (tgt := 7) hx hb dX6_goesOn_77 (by decide) ?_
          exact ih _ _ _ _ _ _ h hI (lv_sub hl [3, 4, 2, 1, 0] rfl)
set_option maxHeartbeats 4000000 in
set_option maxRecDepth 100000 in
theorem c_X6_goesOn (l : Launch) (g : GP) (X : va_W) (am : Nat → Nat) (N : Nat) (x1 : Int32)  (st : St) {r : Int32}  (h : f_X6_goesOn N st x1 = some r) : MetI l yX6_goesOn wsX6_goesOn rmX6_goesOn g (wMX g X am) [.ref (am 0), .int x1] st (r) st := by
  refine metI_of (cc := cX6_goesOn) (nL := 5) (ty := .int) (by decide) rfl (Nat.le_of_ble_eq_true rfl) rfl ?_
  intro p e s m below meth c Q A C hret H locs hI ls hl
  have C : Cx p s m _ c cX6_goesOn 5 wsX6_goesOn RX6 g A := C
  obtain ⟨hx, hb, hml, hown, hts⟩ := id C.1
  have hl : lv_has ls 5 [(0, .ref (am 0)), (1, .int x1)] := hl
  rw [f_X6_goesOn] at h
  refine lv_iconst (v := 0) hx hb dX6_goesOn_0 (by decide) ?_
  refine lv_istore_n (lv' := [(2, .int 0), (0, .ref (am 0)), (1, .int x1)]) hx hb dX6_goesOn_1 rfl hl (by decide) rfl (fun ls hl => ?_)
  refine lv_iconst (v := 0) hx hb dX6_goesOn_2 (by decide) ?_
  refine lv_istore_n (lv' := [(3, .int 0), (2, .int 0), (0, .ref (am 0)), (1, .int x1)]) hx hb dX6_goesOn_3 rfl hl (by decide) rfl (fun ls hl => ?_)
  refine lv_iconst (v := 0) hx hb dX6_goesOn_4 (by decide) ?_
  refine lv_istore (lv' := [(4, .int 0), (3, .int 0), (2, .int 0), (0, .ref (am 0)), (1, .int x1)]) hx hb dX6_goesOn_5 hl (by decide) rfl (fun ls hl => ?_)
  refine wl_X6_goesOn_L7 C st hret N x1 _ (fun a_17 a_18 a_19 H locs ls h hI hl => ?_) N 0 0 0 H locs ls h hI (lv_sub hl [3, 4, 2, 1, 0] rfl)
  refine lv_iload_n hx hb dX6_goesOn_80 rfl (lv_at hl 2 rfl) ?_
  refine lv_iload_n hx hb dX6_goesOn_81 rfl (lv_at hl 3 rfl) ?_
  refine lv_iand hx hb dX6_goesOn_82 ?_
  obtain ⟨r_21, hr_20, h⟩ := bd1_some h
  refine callS_S (rest := []) C.1 (c_X6_many l N (a_17 &&& a_18) hr_20) (va_cwS 1 hts gX6_goesOn_X6_many rfl rfl rfl hd_X6_many ⟨Nat.le_of_ble_eq_true rfl, Nat.le_of_ble_eq_true rfl⟩) rfl hl.1 rfl (Nat.le_of_ble_eq_true rfl) dX6_goesOn_83 ?_
  obtain rfl := ret1 h
  exact hret H locs _ ls hI dX6_goesOn_86
theorem hv_X6_goesOn : yX6_goesOn.cls = RX6 ∧ yX6_goesOn.cls ≠ "java/lang/invoke/MethodHandle" ∧ yX6_goesOn.cls ≠ "java/lang/invoke/VarHandle" ∧ (parseMethodDescriptor yX6_goesOn.desc).map (fun d => d.parameters.length) = some 1 := by decide +kernel
/-! X6_isEarlier -/
def rmX6_isEarlier : Room := { frames := 0, cells := 0, slots := 0, locals := 0 }
def f_X6_isEarlier (x0 : Int32) (x1 : Int32) : Bool := bnd (x0 ^^^ x1) fun v_1 => if (x0 &&& v_1) &&& (-v_1) = 0 then false else true
set_option maxHeartbeats 4000000 in
set_option maxRecDepth 100000 in
theorem c_X6_isEarlier (l : Launch) (x0 : Int32) (x1 : Int32) : MetS l yX6_isEarlier wsX6_isEarlier rmX6_isEarlier [.int x0, .int x1] (b2i (f_X6_isEarlier x0 x1)) := by
  refine metS_of (cc := cX6_isEarlier) (nL := 3) (ty := .boolean) (by decide) rfl (Nat.le_of_ble_eq_true rfl) (nar_b _) ?_
  intro p e s m below meth c Q C hret ls hl
  have C : CallFix p m c cX6_isEarlier 3 s _ wsX6_isEarlier RX6 := C
  obtain ⟨hx, hb, hml, hown, hts⟩ := id C
  have hl : lv_has ls 3 [(0, .int x0), (1, .int x1)] := hl
  generalize hgen : f_X6_isEarlier x0 x1 = r at hret
  have h := hgen
  rw [f_X6_isEarlier] at h
  refine lv_iload_n hx hb dX6_isEarlier_0 rfl (lv_at hl 0 rfl) ?_
  refine lv_iload_n hx hb dX6_isEarlier_1 rfl (lv_at hl 1 rfl) ?_
  refine lv_ixor hx hb dX6_isEarlier_2 ?_
  refine gen_i h (fun v_1 h => ?_)
  refine lv_istore_n (lv' := [(2, .int v_1), (0, .int x0), (1, .int x1)]) hx hb dX6_isEarlier_3 rfl hl (by decide) rfl (fun ls hl => ?_)
  refine lv_iload_n hx hb dX6_isEarlier_4 rfl (lv_at hl 1 rfl) ?_
  refine lv_iload_n hx hb dX6_isEarlier_5 rfl (lv_at hl 0 rfl) ?_
  refine lv_iand hx hb dX6_isEarlier_6 ?_
  refine lv_iload_n hx hb dX6_isEarlier_7 rfl (lv_at hl 0 rfl) ?_
  refine lv_ineg hx hb dX6_isEarlier_8 ?_
  refine lv_iand hx hb dX6_isEarlier_9 ?_
  refine lv_if_eq (tgt := 17) hx hb dX6_isEarlier_10 (by decide) (fun c_2 => ?_) (fun c_2 => ?_)
  · replace h := (if_pos c_2).symm.trans h
    refine lv_iconst (v := 0) hx hb dX6_isEarlier_17 (by decide) ?_
    subst h
    exact hret _ ls dX6_isEarlier_18
  · replace h := (if_neg c_2).symm.trans h
    refine lv_iconst (v := 1) hx hb dX6_isEarlier_13 (by decide) ?_
    refine lv_goto (tgt := 18) hx hb dX6_isEarlier_14 (by decide) ?_
    subst h
    exact hret _ ls dX6_isEarlier_18
theorem hd_X6_isEarlier : yX6_isEarlier.cls ≠ "java/lang/invoke/MethodHandle" ∧ yX6_isEarlier.cls ≠ "java/lang/invoke/VarHandle" ∧ (parseMethodDescriptor yX6_isEarlier.desc).map (fun d => d.parameters.length) = some 2 := by decide +kernel
/-! X6_part -/
def rmX6_part : Room := { frames := 2, cells := 0, slots := 0, locals := 46 }
def f_X6_part_L44 (N : Nat) (x1 : Int32) (x2 : Int32) (st : St) (k : Int32 → Int32 → Option (St)) : Nat → Int32 → Int32 → Option (St)
  | 0, _, _ => none
  | n + 1, x3, x4 => if st 0 0 ≤ x4 then k x3 x4 else if (x2 >>> (x4 &&& 31)) &&& (1 : Int32) = 1 then bd1 (f_X6_goesOn N st x4) fun r_11 => bnd (x3 + r_11) fun v_12 => f_X6_part_L44 N x1 x2 st k n v_12 (x4 + 1) else bnd (x3 + 0) fun v_9 => f_X6_part_L44 N x1 x2 st k n v_9 (x4 + 1)
def f_X6_part_L14 (N : Nat) (x1 : Int32) (k : Int32 → St → Option (St)) : Nat → Int32 → St → Option (St)
  | 0, _, _ => none
  | n + 1, x2, st => if (1 : Int32) <<< ((st 0 0) &&& 31) ≤ x2 then k x2 st else bd1 (f_X6_many N x2) fun r_5 => if r_5 = x1 - 1 then f_X6_part_L44 N x1 x2 st (fun a_13 a_14 => if a_13 < st 10 4 then bnd (sU st 10 4 a_13) fun st_16 => bnd (sU st_16 10 5 x2) fun st_17 => f_X6_part_L14 N x1 k n (x2 + 2) st_17 else if a_13 = st 10 4 then bnd (f_X6_isEarlier x2 (st 10 5)) fun r_19 => if b2i r_19 = 0 then f_X6_part_L14 N x1 k n (x2 + 2) st else bnd (sU st 10 4 a_13) fun st_21 => bnd (sU st_21 10 5 x2) fun st_22 => f_X6_part_L14 N x1 k n (x2 + 2) st_22 else f_X6_part_L14 N x1 k n (x2 + 2) st) N 0 1 else f_X6_part_L14 N x1 k n (x2 + 2) st
def f_X6_part (N : Nat) (st : St) (x1 : Int32) : Option (St) := bnd (sU st 10 4 1000) fun st_1 => bnd (sU st_1 10 5 0) fun st_2 => f_X6_part_L14 N x1 (fun a_23 st_24 => some st_24) N 0 st_2
set_option maxHeartbeats 4000000 in
set_option maxRecDepth 100000 in
theorem wl_X6_part_L44 {p : Program} {l : Launch} {e : Env} {s : State} {m : MethodId} {args : Array Value} {below : List Frame} {meth : Method} {c : Code} {Q : State → Prop} {A : Nat → Prop} {g : GP} {X : va_W} {am : Nat → Nat} {st' : St} (C : Cx p s m args c cX6_part 5 wsX6_part RX6 g A) (hret : RetV p l e rmX6_part s m args below meth c Q cX6_part g A (wMX g X am st')) (N : Nat) (x1 : Int32) (x2 : Int32) (st : St)  (k : Int32 → Int32 → Option (St)) (hk : ∀ (x3 : Int32) (x4 : Int32) (H : Heap) (locs : List Loc) (ls : Array Slot), k x3 x4 = some st' → IW g A s.heap (wMX g X am st) H locs → lv_has ls 5 [(0, .ref (am 0)), (1, .int x1), (2, .int x2), (3, .int x3), (4, .int x4)] → W p l e rmX6_part s m args below meth c H locs 0 0 Q (F0 m 84 ls [])) : ∀ (n : Nat) (x3 : Int32) (x4 : Int32) (H : Heap) (locs : List Loc) (ls : Array Slot), f_X6_part_L44 N x1 x2 st k n x3 x4 = some st' → IW g A s.heap (wMX g X am st) H locs → lv_has ls 5 [(0, .ref (am 0)), (1, .int x1), (2, .int x2), (3, .int x3), (4, .int x4)] → W p l e rmX6_part s m args below meth c H locs 0 0 Q (F0 m 44 ls []) := by
  obtain ⟨hx, hb, hml, hown, hts⟩ := id C.1
  have hinRX6 : ∀ w ∈ u_ws RX6 TX6 16, w ∈ wsX6_part := by decide +kernel
  have lk9 := hts (.fieldLink RX6 9 "GraveRowsModel" "now" "[I") (by decide +kernel)
  intro n
  induction n with
  | zero =>
    intro x3 x4 H locs ls h hI hl
    rw [f_X6_part_L44] at h
    cases h
  | succ n ih =>
    intro x3 x4 H locs ls h hI hl
    rw [f_X6_part_L44] at h
    refine lv_iload hx hb dX6_part_44 (lv_at hl 4 rfl) ?_
    refine lv_aload_n hx hb dX6_part_46 rfl (lv_at hl 0 rfl) ?_
    refine w_get (v := .ref (am 1)) C hinRX6 hI X.length wM_ob rfl 0 (by decide) lk9 rfl rfl dX6_part_47 ?_
    refine lv_iconst (v := 0) hx hb dX6_part_50 (by decide) ?_
    refine w_ldK C hI (X.length + (0 + 1)) (wM_ar (by decide)) 0 (by decide) (by decide) dX6_part_51 ?_
    refine lv_icmp_ge (tgt := 84) hx hb dX6_part_52 (by decide) (fun c_7 => ?_) (fun c_7 => ?_)
    · replace h := (if_pos c_7).symm.trans h
      exact hk _ _ _ _ _ h hI (lv_sub hl [0, 1, 2, 3, 4] rfl)
    · replace h := (if_neg c_7).symm.trans h
      refine lv_iload_n hx hb dX6_part_55 rfl (lv_at hl 3 rfl) ?_
      refine lv_iload_n hx hb dX6_part_56 rfl (lv_at hl 2 rfl) ?_
      refine lv_iload hx hb dX6_part_57 (lv_at hl 4 rfl) ?_
      refine lv_ishr hx hb dX6_part_59 ?_
      refine lv_iconst (v := 1) hx hb dX6_part_60 (by decide) ?_
      refine lv_iand hx hb dX6_part_61 ?_
      refine lv_iconst (v := 1) hx hb dX6_part_62 (by decide) ?_
      refine lv_icmp_ne (tgt := 75) hx hb dX6_part_63 (by decide) (fun c_8 => ?_) (fun c_8 => ?_)
      · replace h := (if_neg c_8).symm.trans h
        refine lv_iconst (v := 0) hx hb dX6_part_75 (by decide) ?_
        refine lv_iadd hx hb dX6_part_76 ?_
        refine gen_i h (fun v_9 h => ?_)
        refine lv_istore_n (lv' := [(3, .int v_9), (0, .ref (am 0)), (1, .int x1), (2, .int x2), (4, .int x4)]) hx hb dX6_part_77 rfl hl (by decide) rfl (fun ls hl => ?_)
        refine lv_iinc (v := x4 + 1) (lv' := [(4, .int (x4 + 1)), (3, .int v_9), (0, .ref (am 0)), (1, .int x1), (2, .int x2)]) hx hb dX6_part_78 hl (k := 4) rfl rfl (by decide) rfl (fun ls hl => ?_)
        refine lv_goto (tgt := 44) hx hb dX6_part_81 (by decide) ?_
        exact ih _ _ _ _ _ h hI (lv_sub hl [2, 3, 4, 1, 0] rfl)
      · replace h := (if_pos c_8).symm.trans h
        refine lv_aload_n hx hb dX6_part_66 rfl (lv_at hl 0 rfl) ?_
        refine lv_iload hx hb dX6_part_67 (lv_at hl 4 rfl) ?_
        obtain ⟨r_11, hr_10, h⟩ := bd1_some h
        refine callV_I (rest := [.int x3]) C hI (c_X6_goesOn l g X am N x4 st hr_10) (cwV 1 hts gX6_part_X6_goesOn rfl rfl rfl hv_X6_goesOn ⟨Nat.le_of_ble_eq_true rfl, Nat.le_of_ble_eq_true rfl⟩) (w_recv C hI X.length wM_ob rfl) rfl hl.1 rfl (Nat.le_of_ble_eq_true rfl) dX6_part_69 (fun H locs hI => ?_)
        refine lv_goto (tgt := 76) hx hb dX6_part_72 (by decide) ?_
        refine lv_iadd hx hb dX6_part_76 ?_
        refine gen_i h (fun v_12 h => ?_)
        refine lv_istore_n (lv' := [(3, .int v_12), (0, .ref (am 0)), (1, .int x1), (2, .int x2), (4, .int x4)]) hx hb dX6_part_77 rfl hl (by decide) rfl (fun ls hl => ?_)
        refine lv_iinc (v := x4 + 1) (lv' := [(4, .int (x4 + 1)), (3, .int v_12), (0, .ref (am 0)), (1, .int x1), (2, .int x2)]) hx hb dX6_part_78 hl (k := 4) rfl rfl (by decide) rfl (fun ls hl => ?_)
        refine lv_goto (tgt := 44) hx hb dX6_part_81 (by decide) ?_
        exact ih _ _ _ _ _ h hI (lv_sub hl [2, 3, 4, 1, 0] rfl)
set_option maxHeartbeats 4000000 in
set_option maxRecDepth 100000 in
theorem wl_X6_part_L14 {p : Program} {l : Launch} {e : Env} {s : State} {m : MethodId} {args : Array Value} {below : List Frame} {meth : Method} {c : Code} {Q : State → Prop} {A : Nat → Prop} {g : GP} {X : va_W} {am : Nat → Nat} {st' : St} (C : Cx p s m args c cX6_part 5 wsX6_part RX6 g A) (hret : RetV p l e rmX6_part s m args below meth c Q cX6_part g A (wMX g X am st')) (N : Nat) (x1 : Int32)  (k : Int32 → St → Option (St)) (hk : ∀ (x2 : Int32) (st : St) (H : Heap) (locs : List Loc) (ls : Array Slot), k x2 st = some st' → IW g A s.heap (wMX g X am st) H locs → lv_has ls 5 [(0, .ref (am 0)), (1, .int x1), (2, .int x2)] → W p l e rmX6_part s m args below meth c H locs 0 0 Q (F0 m 127 ls [])) : ∀ (n : Nat) (x2 : Int32) (st : St) (H : Heap) (locs : List Loc) (ls : Array Slot), f_X6_part_L14 N x1 k n x2 st = some st' → IW g A s.heap (wMX g X am st) H locs → lv_has ls 5 [(0, .ref (am 0)), (1, .int x1), (2, .int x2)] → W p l e rmX6_part s m args below meth c H locs 0 0 Q (F0 m 14 ls []) := by
  obtain ⟨hx, hb, hml, hown, hts⟩ := id C.1
  have hinRX6 : ∀ w ∈ u_ws RX6 TX6 16, w ∈ wsX6_part := by decide +kernel
  have lk9 := hts (.fieldLink RX6 9 "GraveRowsModel" "now" "[I") (by decide +kernel)
  have lk125 := hts (.fieldLink RX6 125 "GraveRowsModel" "fewest" "I") (by decide +kernel)
  have lk128 := hts (.fieldLink RX6 128 "GraveRowsModel" "borders" "I") (by decide +kernel)
  intro n
  induction n with
  | zero =>
    intro x2 st H locs ls h hI hl
    rw [f_X6_part_L14] at h
    cases h
  | succ n ih =>
    intro x2 st H locs ls h hI hl
    rw [f_X6_part_L14] at h
    refine lv_iload_n hx hb dX6_part_14 rfl (lv_at hl 2 rfl) ?_
    refine lv_iconst (v := 1) hx hb dX6_part_15 (by decide) ?_
    refine lv_aload_n hx hb dX6_part_16 rfl (lv_at hl 0 rfl) ?_
    refine w_get (v := .ref (am 1)) C hinRX6 hI X.length wM_ob rfl 0 (by decide) lk9 rfl rfl dX6_part_17 ?_
    refine lv_iconst (v := 0) hx hb dX6_part_20 (by decide) ?_
    refine w_ldK C hI (X.length + (0 + 1)) (wM_ar (by decide)) 0 (by decide) (by decide) dX6_part_21 ?_
    refine lv_ishl hx hb dX6_part_22 ?_
    refine lv_icmp_ge (tgt := 127) hx hb dX6_part_23 (by decide) (fun c_3 => ?_) (fun c_3 => ?_)
    · replace h := (if_pos c_3).symm.trans h
      exact hk _ _ _ _ _ h hI (lv_sub hl [0, 1, 2] rfl)
    · replace h := (if_neg c_3).symm.trans h
      refine lv_iload_n hx hb dX6_part_26 rfl (lv_at hl 2 rfl) ?_
      obtain ⟨r_5, hr_4, h⟩ := bd1_some h
      refine callS_S (rest := []) C.1 (c_X6_many l N x2 hr_4) (va_cwS 1 hts gX6_part_X6_many rfl rfl rfl hd_X6_many ⟨Nat.le_of_ble_eq_true rfl, Nat.le_of_ble_eq_true rfl⟩) rfl hl.1 rfl (Nat.le_of_ble_eq_true rfl) dX6_part_27 ?_
      refine lv_iload_n hx hb dX6_part_30 rfl (lv_at hl 1 rfl) ?_
      refine lv_iconst (v := 1) hx hb dX6_part_31 (by decide) ?_
      refine lv_isub hx hb dX6_part_32 ?_
      refine lv_icmp_eq (tgt := 39) hx hb dX6_part_33 (by decide) (fun c_6 => ?_) (fun c_6 => ?_)
      · replace h := (if_pos c_6).symm.trans h
        refine lv_iconst (v := 0) hx hb dX6_part_39 (by decide) ?_
        refine lv_istore_n (lv' := [(3, .int 0), (0, .ref (am 0)), (1, .int x1), (2, .int x2)]) hx hb dX6_part_40 rfl hl (by decide) rfl (fun ls hl => ?_)
        refine lv_iconst (v := 1) hx hb dX6_part_41 (by decide) ?_
        refine lv_istore (lv' := [(4, .int 1), (3, .int 0), (0, .ref (am 0)), (1, .int x1), (2, .int x2)]) hx hb dX6_part_42 hl (by decide) rfl (fun ls hl => ?_)
        refine wl_X6_part_L44 C hret N x1 x2 st _ (fun a_13 a_14 H locs ls h hI hl => ?_) N 0 1 H locs ls h hI (lv_sub hl [2, 3, 4, 1, 0] rfl)
        refine lv_iload_n hx hb dX6_part_84 rfl (lv_at hl 3 rfl) ?_
        refine lv_aload_n hx hb dX6_part_85 rfl (lv_at hl 0 rfl) ?_
        refine w_get (v := .int (st 10 4)) C hinRX6 hI X.length wM_ob rfl 14 (by decide) lk125 rfl rfl dX6_part_86 ?_
        refine lv_icmp_lt (tgt := 111) hx hb dX6_part_89 (by decide) (fun c_15 => ?_) (fun c_15 => ?_)
        · replace h := (if_pos c_15).symm.trans h
          refine lv_aload_n hx hb dX6_part_111 rfl (lv_at hl 0 rfl) ?_
          refine lv_iload_n hx hb dX6_part_112 rfl (lv_at hl 3 rfl) ?_
          refine w_put C hinRX6 tyX6 tyX6_ok nmX6 hI X.length wM_ob rfl 14 h (wM_setob rfl) (by decide) (Nat.le_of_ble_eq_true rfl) lk125 ⟨rfl, rfl⟩ rfl rfl dX6_part_113 (fun st_16 H locs h hI => ?_)
          refine lv_aload_n hx hb dX6_part_116 rfl (lv_at hl 0 rfl) ?_
          refine lv_iload_n hx hb dX6_part_117 rfl (lv_at hl 2 rfl) ?_
          refine w_put C hinRX6 tyX6 tyX6_ok nmX6 hI X.length wM_ob rfl 15 h (wM_setob rfl) (by decide) (Nat.le_of_ble_eq_true rfl) lk128 ⟨rfl, rfl⟩ rfl rfl dX6_part_118 (fun st_17 H locs h hI => ?_)
          refine lv_iinc (v := x2 + 2) (lv' := [(2, .int (x2 + 2)), (0, .ref (am 0)), (1, .int x1), (3, .int a_13), (4, .int a_14)]) hx hb dX6_part_121 hl (k := 2) rfl rfl (by decide) rfl (fun ls hl => ?_)
          refine lv_goto (tgt := 14) hx hb dX6_part_124 (by decide) ?_
          exact ih _ _ _ _ _ h hI (lv_sub hl [1, 2, 0] rfl)
        · replace h := (if_neg c_15).symm.trans h
          refine lv_iload_n hx hb dX6_part_92 rfl (lv_at hl 3 rfl) ?_
          refine lv_aload_n hx hb dX6_part_93 rfl (lv_at hl 0 rfl) ?_
          refine w_get (v := .int (st 10 4)) C hinRX6 hI X.length wM_ob rfl 14 (by decide) lk125 rfl rfl dX6_part_94 ?_
          refine lv_icmp_ne (tgt := 121) hx hb dX6_part_97 (by decide) (fun c_18 => ?_) (fun c_18 => ?_)
          · replace h := (if_neg c_18).symm.trans h
            refine lv_iinc (v := x2 + 2) (lv' := [(2, .int (x2 + 2)), (0, .ref (am 0)), (1, .int x1), (3, .int a_13), (4, .int a_14)]) hx hb dX6_part_121 hl (k := 2) rfl rfl (by decide) rfl (fun ls hl => ?_)
            refine lv_goto (tgt := 14) hx hb dX6_part_124 (by decide) ?_
            exact ih _ _ _ _ _ h hI (lv_sub hl [1, 2, 0] rfl)
          · replace h := (if_pos c_18).symm.trans h
            refine lv_iload_n hx hb dX6_part_100 rfl (lv_at hl 2 rfl) ?_
            refine lv_aload_n hx hb dX6_part_101 rfl (lv_at hl 0 rfl) ?_
            refine w_get (v := .int (st 10 5)) C hinRX6 hI X.length wM_ob rfl 15 (by decide) lk128 rfl rfl dX6_part_102 ?_
            refine callS_S (rest := []) C.1 (c_X6_isEarlier l x2 (st 10 5)) (va_cwS 2 hts gX6_part_X6_isEarlier rfl rfl rfl hd_X6_isEarlier ⟨Nat.le_of_ble_eq_true rfl, Nat.le_of_ble_eq_true rfl⟩) rfl hl.1 rfl (Nat.le_of_ble_eq_true rfl) dX6_part_105 ?_
            refine gen_b h (fun r_19 h => ?_)
            refine lv_if_eq (tgt := 121) hx hb dX6_part_108 (by decide) (fun c_20 => ?_) (fun c_20 => ?_)
            · replace h := (if_pos c_20).symm.trans h
              refine lv_iinc (v := x2 + 2) (lv' := [(2, .int (x2 + 2)), (0, .ref (am 0)), (1, .int x1), (3, .int a_13), (4, .int a_14)]) hx hb dX6_part_121 hl (k := 2) rfl rfl (by decide) rfl (fun ls hl => ?_)
              refine lv_goto (tgt := 14) hx hb dX6_part_124 (by decide) ?_
              exact ih _ _ _ _ _ h hI (lv_sub hl [1, 2, 0] rfl)
            · replace h := (if_neg c_20).symm.trans h
              refine lv_aload_n hx hb dX6_part_111 rfl (lv_at hl 0 rfl) ?_
              refine lv_iload_n hx hb dX6_part_112 rfl (lv_at hl 3 rfl) ?_
              refine w_put C hinRX6 tyX6 tyX6_ok nmX6 hI X.length wM_ob rfl 14 h (wM_setob rfl) (by decide) (Nat.le_of_ble_eq_true rfl) lk125 ⟨rfl, rfl⟩ rfl rfl dX6_part_113 (fun st_21 H locs h hI => ?_)
              refine lv_aload_n hx hb dX6_part_116 rfl (lv_at hl 0 rfl) ?_
              refine lv_iload_n hx hb dX6_part_117 rfl (lv_at hl 2 rfl) ?_
              refine w_put C hinRX6 tyX6 tyX6_ok nmX6 hI X.length wM_ob rfl 15 h (wM_setob rfl) (by decide) (Nat.le_of_ble_eq_true rfl) lk128 ⟨rfl, rfl⟩ rfl rfl dX6_part_118 (fun st_22 H locs h hI => ?_)
              refine lv_iinc (v := x2 + 2) (lv' := [(2, .int (x2 + 2)), (0, .ref (am 0)), (1, .int x1), (3, .int a_13), (4, .int a_14)]) hx hb dX6_part_121 hl (k := 2) rfl rfl (by decide) rfl (fun ls hl => ?_)
              refine lv_goto (tgt := 14) hx hb dX6_part_124 (by decide) ?_
              exact ih _ _ _ _ _ h hI (lv_sub hl [1, 2, 0] rfl)
      · replace h := (if_neg c_6).symm.trans h
        refine lv_goto (tgt := 121) hx hb dX6_part_36 (by decide) ?_
        refine lv_iinc (v := x2 + 2) (lv' := [(2, .int (x2 + 2)), (0, .ref (am 0)), (1, .int x1)]) hx hb dX6_part_121 hl (k := 2) rfl rfl (by decide) rfl (fun ls hl => ?_)
        refine lv_goto (tgt := 14) hx hb dX6_part_124 (by decide) ?_
        exact ih _ _ _ _ _ h hI (lv_sub hl [1, 2, 0] rfl)
set_option maxHeartbeats 4000000 in
set_option maxRecDepth 100000 in
theorem c_X6_part (l : Launch) (g : GP) (X : va_W) (am : Nat → Nat) (N : Nat) (x1 : Int32)  (st : St) {st' : St} (h : f_X6_part N st x1 = some st') : MetV l yX6_part wsX6_part rmX6_part g (wMX g X am) [.ref (am 0), .int x1] st st' := by
  refine metV_of (cc := cX6_part) (nL := 5) (by decide) rfl (Nat.le_of_ble_eq_true rfl) ?_
  intro p e s m below meth c Q A C hret H locs hI ls hl
  have C : Cx p s m _ c cX6_part 5 wsX6_part RX6 g A := C
  obtain ⟨hx, hb, hml, hown, hts⟩ := id C.1
  have hl : lv_has ls 5 [(0, .ref (am 0)), (1, .int x1)] := hl
  have hinRX6 : ∀ w ∈ u_ws RX6 TX6 16, w ∈ wsX6_part := by decide +kernel
  have lk125 := hts (.fieldLink RX6 125 "GraveRowsModel" "fewest" "I") (by decide +kernel)
  have lk128 := hts (.fieldLink RX6 128 "GraveRowsModel" "borders" "I") (by decide +kernel)
  rw [f_X6_part] at h
  refine lv_aload_n hx hb dX6_part_0 rfl (lv_at hl 0 rfl) ?_
  refine lv_sipush (v := 1000) hx hb dX6_part_1 (by decide) ?_
  refine w_put C hinRX6 tyX6 tyX6_ok nmX6 hI X.length wM_ob rfl 14 h (wM_setob rfl) (by decide) (Nat.le_of_ble_eq_true rfl) lk125 ⟨rfl, rfl⟩ rfl rfl dX6_part_4 (fun st_1 H locs h hI => ?_)
  refine lv_aload_n hx hb dX6_part_7 rfl (lv_at hl 0 rfl) ?_
  refine lv_iconst (v := 0) hx hb dX6_part_8 (by decide) ?_
  refine w_put C hinRX6 tyX6 tyX6_ok nmX6 hI X.length wM_ob rfl 15 h (wM_setob rfl) (by decide) (Nat.le_of_ble_eq_true rfl) lk128 ⟨rfl, rfl⟩ rfl rfl dX6_part_9 (fun st_2 H locs h hI => ?_)
  refine lv_iconst (v := 0) hx hb dX6_part_12 (by decide) ?_
  refine lv_istore_n (lv' := [(2, .int 0), (0, .ref (am 0)), (1, .int x1)]) hx hb dX6_part_13 rfl hl (by decide) rfl (fun ls hl => ?_)
  refine wl_X6_part_L14 C hret N x1 _ (fun a_23 st_24 H locs ls h hI hl => ?_) N 0 st_2 H locs ls h hI (lv_sub hl [1, 2, 0] rfl)
  obtain rfl := ret1 h
  exact hret H locs _ ls hI dX6_part_127
theorem hv_X6_part : yX6_part.cls = RX6 ∧ yX6_part.cls ≠ "java/lang/invoke/MethodHandle" ∧ yX6_part.cls ≠ "java/lang/invoke/VarHandle" ∧ (parseMethodDescriptor yX6_part.desc).map (fun d => d.parameters.length) = some 1 := by decide +kernel
/-! X6_noStretches -/
def rmX6_noStretches : Room := { frames := 1, cells := 0, slots := 0, locals := 22 }
def f_X6_noStretches (st : St) (x1 : Int32) : Int32 := bnd (f_X6_noOrder st) fun r_1 => if r_1 = 0 then bnd (f_X6_within x1 1 (st 0 0)) fun r_3 => if b2i r_3 = 0 then -100001 else 0 else bnd (f_X6_noOrder st) fun r_5 => r_5
set_option maxHeartbeats 4000000 in
set_option maxRecDepth 100000 in
theorem c_X6_noStretches (l : Launch) (g : GP) (X : va_W) (am : Nat → Nat) (x1 : Int32)  (st : St) : MetI l yX6_noStretches wsX6_noStretches rmX6_noStretches g (wMX g X am) [.ref (am 0), .int x1] st (f_X6_noStretches st x1) st := by
  refine metI_of (cc := cX6_noStretches) (nL := 2) (ty := .int) (by decide) rfl (Nat.le_of_ble_eq_true rfl) rfl ?_
  intro p e s m below meth c Q A C hret H locs hI ls hl
  have C : Cx p s m _ c cX6_noStretches 2 wsX6_noStretches RX6 g A := C
  obtain ⟨hx, hb, hml, hown, hts⟩ := id C.1
  have hl : lv_has ls 2 [(0, .ref (am 0)), (1, .int x1)] := hl
  have hinRX6 : ∀ w ∈ u_ws RX6 TX6 16, w ∈ wsX6_noStretches := by decide +kernel
  have lk9 := hts (.fieldLink RX6 9 "GraveRowsModel" "now" "[I") (by decide +kernel)
  have lc48 := hts (.constant RX6 48 (-100001)) (by decide +kernel)
  generalize hgen : f_X6_noStretches st x1 = r at hret
  have h := hgen
  rw [f_X6_noStretches] at h
  refine lv_aload_n hx hb dX6_noStretches_0 rfl (lv_at hl 0 rfl) ?_
  refine callV_I (rest := []) C hI (c_X6_noOrder l g X am st) (cwV 0 hts gX6_noStretches_X6_noOrder rfl rfl rfl hv_X6_noOrder ⟨Nat.le_of_ble_eq_true rfl, Nat.le_of_ble_eq_true rfl⟩) (w_recv C hI X.length wM_ob rfl) rfl hl.1 rfl (Nat.le_of_ble_eq_true rfl) dX6_noStretches_1 (fun H locs hI => ?_)
  refine gen_i h (fun r_1 h => ?_)
  refine lv_if_eq (tgt := 14) hx hb dX6_noStretches_4 (by decide) (fun c_2 => ?_) (fun c_2 => ?_)
  · replace h := (if_pos c_2).symm.trans h
    refine lv_iload_n hx hb dX6_noStretches_14 rfl (lv_at hl 1 rfl) ?_
    refine lv_iconst (v := 1) hx hb dX6_noStretches_15 (by decide) ?_
    refine lv_aload_n hx hb dX6_noStretches_16 rfl (lv_at hl 0 rfl) ?_
    refine w_get (v := .ref (am 1)) C hinRX6 hI X.length wM_ob rfl 0 (by decide) lk9 rfl rfl dX6_noStretches_17 ?_
    refine lv_iconst (v := 0) hx hb dX6_noStretches_20 (by decide) ?_
    refine w_ldK C hI (X.length + (0 + 1)) (wM_ar (by decide)) 0 (by decide) (by decide) dX6_noStretches_21 ?_
    refine callS_S (rest := []) C.1 (c_X6_within l x1 1 (st 0 0)) (va_cwS 3 hts gX6_noStretches_X6_within rfl rfl rfl hd_X6_within ⟨Nat.le_of_ble_eq_true rfl, Nat.le_of_ble_eq_true rfl⟩) rfl hl.1 rfl (Nat.le_of_ble_eq_true rfl) dX6_noStretches_22 ?_
    refine gen_b h (fun r_3 h => ?_)
    refine lv_if_eq (tgt := 32) hx hb dX6_noStretches_25 (by decide) (fun c_4 => ?_) (fun c_4 => ?_)
    · replace h := (if_pos c_4).symm.trans h
      refine lv_ldc (v := (-100001)) hx hb hown lc48 dX6_noStretches_32 ?_
      subst h
      exact hret H locs _ ls hI dX6_noStretches_34
    · replace h := (if_neg c_4).symm.trans h
      refine lv_iconst (v := 0) hx hb dX6_noStretches_28 (by decide) ?_
      refine lv_goto (tgt := 34) hx hb dX6_noStretches_29 (by decide) ?_
      subst h
      exact hret H locs _ ls hI dX6_noStretches_34
  · replace h := (if_neg c_2).symm.trans h
    refine lv_aload_n hx hb dX6_noStretches_7 rfl (lv_at hl 0 rfl) ?_
    refine callV_I (rest := []) C hI (c_X6_noOrder l g X am st) (cwV 0 hts gX6_noStretches_X6_noOrder rfl rfl rfl hv_X6_noOrder ⟨Nat.le_of_ble_eq_true rfl, Nat.le_of_ble_eq_true rfl⟩) (w_recv C hI X.length wM_ob rfl) rfl hl.1 rfl (Nat.le_of_ble_eq_true rfl) dX6_noStretches_8 (fun H locs hI => ?_)
    refine gen_i h (fun r_5 h => ?_)
    refine lv_goto (tgt := 34) hx hb dX6_noStretches_11 (by decide) ?_
    subst h
    exact hret H locs _ ls hI dX6_noStretches_34
theorem hv_X6_noStretches : yX6_noStretches.cls = RX6 ∧ yX6_noStretches.cls ≠ "java/lang/invoke/MethodHandle" ∧ yX6_noStretches.cls ≠ "java/lang/invoke/VarHandle" ∧ (parseMethodDescriptor yX6_noStretches.desc).map (fun d => d.parameters.length) = some 1 := by decide +kernel
/-! X6_stretches -/
def rmX6_stretches : Room := { frames := 3, cells := 0, slots := 0, locals := 73 }
def f_X6_stretches (N : Nat) (st : St) (x1 : Int32) : Option (Int32 × St) := bnd (f_X6_noStretches st x1) fun r_1 => if r_1 = 0 then bd1 (f_X6_search N st 4095) fun st_4 => bd1 (f_X6_part N st_4 x1) fun st_6 => some (st_6 10 4, st_6) else bnd (f_X6_noStretches st x1) fun r_7 => bd2 (f_X6_finding st r_7) fun r_9 st_10 => some (r_9, st_10)
set_option maxHeartbeats 4000000 in
set_option maxRecDepth 100000 in
theorem c_X6_stretches (l : Launch) (g : GP) (X : va_W) (am : Nat → Nat) (N : Nat) (x1 : Int32)  (st : St) {r : Int32} {st' : St} (h : f_X6_stretches N st x1 = some (r, st')) : MetI l yX6_stretches wsX6_stretches rmX6_stretches g (wMX g X am) [.ref (am 0), .int x1] st (r) st' := by
  refine metI_of (cc := cX6_stretches) (nL := 2) (ty := .int) (by decide) rfl (Nat.le_of_ble_eq_true rfl) rfl ?_
  intro p e s m below meth c Q A C hret H locs hI ls hl
  have C : Cx p s m _ c cX6_stretches 2 wsX6_stretches RX6 g A := C
  obtain ⟨hx, hb, hml, hown, hts⟩ := id C.1
  have hl : lv_has ls 2 [(0, .ref (am 0)), (1, .int x1)] := hl
  have hinRX6 : ∀ w ∈ u_ws RX6 TX6 16, w ∈ wsX6_stretches := by decide +kernel
  have lk125 := hts (.fieldLink RX6 125 "GraveRowsModel" "fewest" "I") (by decide +kernel)
  rw [f_X6_stretches] at h
  refine lv_aload_n hx hb dX6_stretches_0 rfl (lv_at hl 0 rfl) ?_
  refine lv_iload_n hx hb dX6_stretches_1 rfl (lv_at hl 1 rfl) ?_
  refine callV_I (rest := []) C hI (c_X6_noStretches l g X am x1 st) (cwV 1 hts gX6_stretches_X6_noStretches rfl rfl rfl hv_X6_noStretches ⟨Nat.le_of_ble_eq_true rfl, Nat.le_of_ble_eq_true rfl⟩) (w_recv C hI X.length wM_ob rfl) rfl hl.1 rfl (Nat.le_of_ble_eq_true rfl) dX6_stretches_2 (fun H locs hI => ?_)
  refine gen_i h (fun r_1 h => ?_)
  refine lv_if_eq (tgt := 18) hx hb dX6_stretches_5 (by decide) (fun c_2 => ?_) (fun c_2 => ?_)
  · replace h := (if_pos c_2).symm.trans h
    refine lv_aload_n hx hb dX6_stretches_18 rfl (lv_at hl 0 rfl) ?_
    refine lv_sipush (v := 4095) hx hb dX6_stretches_19 (by decide) ?_
    obtain ⟨st_4, hr_3, h⟩ := bd1_some h
    refine callV_V (rest := []) C hI (c_X6_search l g X am N 4095 st hr_3) (cwV 1 hts gX6_stretches_X6_search rfl rfl rfl hv_X6_search ⟨Nat.le_of_ble_eq_true rfl, Nat.le_of_ble_eq_true rfl⟩) (w_recv C hI X.length wM_ob rfl) rfl hl.1 rfl (Nat.le_of_ble_eq_true rfl) dX6_stretches_22 (fun H locs hI => ?_)
    refine lv_aload_n hx hb dX6_stretches_25 rfl (lv_at hl 0 rfl) ?_
    refine lv_iload_n hx hb dX6_stretches_26 rfl (lv_at hl 1 rfl) ?_
    obtain ⟨st_6, hr_5, h⟩ := bd1_some h
    refine callV_V (rest := []) C hI (c_X6_part l g X am N x1 st_4 hr_5) (cwV 1 hts gX6_stretches_X6_part rfl rfl rfl hv_X6_part ⟨Nat.le_of_ble_eq_true rfl, Nat.le_of_ble_eq_true rfl⟩) (w_recv C hI X.length wM_ob rfl) rfl hl.1 rfl (Nat.le_of_ble_eq_true rfl) dX6_stretches_27 (fun H locs hI => ?_)
    refine lv_aload_n hx hb dX6_stretches_30 rfl (lv_at hl 0 rfl) ?_
    refine w_get (v := .int (st_6 10 4)) C hinRX6 hI X.length wM_ob rfl 14 (by decide) lk125 rfl rfl dX6_stretches_31 ?_
    obtain ⟨rfl, rfl⟩ := ret2 h
    exact hret H locs _ ls hI dX6_stretches_34
  · replace h := (if_neg c_2).symm.trans h
    refine lv_aload_n hx hb dX6_stretches_8 rfl (lv_at hl 0 rfl) ?_
    refine lv_aload_n hx hb dX6_stretches_9 rfl (lv_at hl 0 rfl) ?_
    refine lv_iload_n hx hb dX6_stretches_10 rfl (lv_at hl 1 rfl) ?_
    refine callV_I (rest := [.ref (am 0)]) C hI (c_X6_noStretches l g X am x1 st) (cwV 1 hts gX6_stretches_X6_noStretches rfl rfl rfl hv_X6_noStretches ⟨Nat.le_of_ble_eq_true rfl, Nat.le_of_ble_eq_true rfl⟩) (w_recv C hI X.length wM_ob rfl) rfl hl.1 rfl (Nat.le_of_ble_eq_true rfl) dX6_stretches_11 (fun H locs hI => ?_)
    refine gen_i h (fun r_7 h => ?_)
    obtain ⟨r_9, st_10, hr_8, h⟩ := bd2_some h
    refine callV_I (rest := []) C hI (c_X6_finding l g X am r_7 st hr_8) (cwV 1 hts gX6_stretches_X6_finding rfl rfl rfl hv_X6_finding ⟨Nat.le_of_ble_eq_true rfl, Nat.le_of_ble_eq_true rfl⟩) (w_recv C hI X.length wM_ob rfl) rfl hl.1 rfl (Nat.le_of_ble_eq_true rfl) dX6_stretches_14 (fun H locs hI => ?_)
    obtain ⟨rfl, rfl⟩ := ret2 h
    exact hret H locs _ ls hI dX6_stretches_17
theorem hv_X6_stretches : yX6_stretches.cls = RX6 ∧ yX6_stretches.cls ≠ "java/lang/invoke/MethodHandle" ∧ yX6_stretches.cls ≠ "java/lang/invoke/VarHandle" ∧ (parseMethodDescriptor yX6_stretches.desc).map (fun d => d.parameters.length) = some 1 := by decide +kernel
/-! X6_border -/
def rmX6_border : Room := { frames := 3, cells := 0, slots := 0, locals := 73 }
def f_X6_border_L53 (N : Nat) (st : St) (k : Int32 → Int32 → Option (Int32 × St)) : Nat → Int32 → Int32 → Option (Int32 × St)
  | 0, _, _ => none
  | n + 1, x3, x4 => if x3 ≤ 0 then k x3 x4 else bnd (x3 - (((st 10 5) >>> ((x4 + 1) &&& 31)) &&& (1 : Int32))) fun v_10 => f_X6_border_L53 N st k n v_10 (x4 + 1)
def f_X6_border (N : Nat) (st : St) (x1 : Int32) (x2 : Int32) : Option (Int32 × St) := bnd (f_X6_noStretches st x1) fun r_1 => if r_1 = 0 then bnd (f_X6_within x2 0 (x1 - 1)) fun r_3 => if b2i r_3 = 0 then bd2 (f_X6_finding st (-100001 : Int32)) fun r_14 st_15 => some (r_14, st_15) else bd1 (f_X6_search N st 4095) fun st_6 => bd1 (f_X6_part N st_6 x1) fun st_8 => f_X6_border_L53 N st_8 (fun a_11 a_12 => some (a_12, st_8)) N x2 0 else bnd (f_X6_noStretches st x1) fun r_16 => bd2 (f_X6_finding st r_16) fun r_18 st_19 => some (r_18, st_19)
set_option maxHeartbeats 4000000 in
set_option maxRecDepth 100000 in
theorem wl_X6_border_L53 {p : Program} {l : Launch} {e : Env} {s : State} {m : MethodId} {args : Array Value} {below : List Frame} {meth : Method} {c : Code} {Q : State → Prop} {A : Nat → Prop} {g : GP} {X : va_W} {am : Nat → Nat} {r : Int32} {st' : St} (C : Cx p s m args c cX6_border 5 wsX6_border RX6 g A) (hret : RetI p l e rmX6_border s m args below meth c Q cX6_border g A (wMX g X am st') (r)) (N : Nat) (st : St)  (k : Int32 → Int32 → Option (Int32 × St)) (hk : ∀ (x3 : Int32) (x4 : Int32) (H : Heap) (locs : List Loc) (ls : Array Slot), k x3 x4 = some (r, st') → IW g A s.heap (wMX g X am st) H locs → lv_has ls 5 [(0, .ref (am 0)), (3, .int x3), (4, .int x4)] → W p l e rmX6_border s m args below meth c H locs 0 0 Q (F0 m 75 ls [])) : ∀ (n : Nat) (x3 : Int32) (x4 : Int32) (H : Heap) (locs : List Loc) (ls : Array Slot), f_X6_border_L53 N st k n x3 x4 = some (r, st') → IW g A s.heap (wMX g X am st) H locs → lv_has ls 5 [(0, .ref (am 0)), (3, .int x3), (4, .int x4)] → W p l e rmX6_border s m args below meth c H locs 0 0 Q (F0 m 53 ls []) := by
  obtain ⟨hx, hb, hml, hown, hts⟩ := id C.1
  have hinRX6 : ∀ w ∈ u_ws RX6 TX6 16, w ∈ wsX6_border := by decide +kernel
  have lk128 := hts (.fieldLink RX6 128 "GraveRowsModel" "borders" "I") (by decide +kernel)
  intro n
  induction n with
  | zero =>
    intro x3 x4 H locs ls h hI hl
    rw [f_X6_border_L53] at h
    cases h
  | succ n ih =>
    intro x3 x4 H locs ls h hI hl
    rw [f_X6_border_L53] at h
    refine lv_iload_n hx hb dX6_border_53 rfl (lv_at hl 1 rfl) ?_
    refine lv_if_le (tgt := 75) hx hb dX6_border_54 (by decide) (fun c_9 => ?_) (fun c_9 => ?_)
    · replace h := (if_pos c_9).symm.trans h
      exact hk _ _ _ _ _ h hI (lv_sub hl [0, 1, 2] rfl)
    · replace h := (if_neg c_9).symm.trans h
      refine lv_iinc (v := x4 + 1) (lv' := [(4, .int (x4 + 1)), (0, .ref (am 0)), (3, .int x3)]) hx hb dX6_border_57 hl (k := 2) rfl rfl (by decide) rfl (fun ls hl => ?_)
      refine lv_iload_n hx hb dX6_border_60 rfl (lv_at hl 2 rfl) ?_
      refine lv_aload_n hx hb dX6_border_61 rfl (lv_at hl 1 rfl) ?_
      refine w_get (v := .int (st 10 5)) C hinRX6 hI X.length wM_ob rfl 15 (by decide) lk128 rfl rfl dX6_border_62 ?_
      refine lv_iload hx hb dX6_border_65 (lv_at hl 0 rfl) ?_
      refine lv_ishr hx hb dX6_border_67 ?_
      refine lv_iconst (v := 1) hx hb dX6_border_68 (by decide) ?_
      refine lv_iand hx hb dX6_border_69 ?_
      refine lv_isub hx hb dX6_border_70 ?_
      refine gen_i h (fun v_10 h => ?_)
      refine lv_istore_n (lv' := [(3, .int v_10), (4, .int (x4 + 1)), (0, .ref (am 0))]) hx hb dX6_border_71 rfl hl (by decide) rfl (fun ls hl => ?_)
      refine lv_goto (tgt := 53) hx hb dX6_border_72 (by decide) ?_
      exact ih _ _ _ _ _ h hI (lv_sub hl [2, 0, 1] rfl)
set_option maxHeartbeats 4000000 in
set_option maxRecDepth 100000 in
theorem c_X6_border (l : Launch) (g : GP) (X : va_W) (am : Nat → Nat) (N : Nat) (x1 : Int32) (x2 : Int32)  (st : St) {r : Int32} {st' : St} (h : f_X6_border N st x1 x2 = some (r, st')) : MetI l yX6_border wsX6_border rmX6_border g (wMX g X am) [.ref (am 0), .int x1, .int x2] st (r) st' := by
  refine metI_of (cc := cX6_border) (nL := 5) (ty := .int) (by decide) rfl (Nat.le_of_ble_eq_true rfl) rfl ?_
  intro p e s m below meth c Q A C hret H locs hI ls hl
  have C : Cx p s m _ c cX6_border 5 wsX6_border RX6 g A := C
  obtain ⟨hx, hb, hml, hown, hts⟩ := id C.1
  have hl : lv_has ls 5 [(0, .ref (am 0)), (1, .int x1), (2, .int x2)] := hl
  have lc48 := hts (.constant RX6 48 (-100001)) (by decide +kernel)
  rw [f_X6_border] at h
  refine lv_aload_n hx hb dX6_border_0 rfl (lv_at hl 0 rfl) ?_
  refine lv_iload_n hx hb dX6_border_1 rfl (lv_at hl 1 rfl) ?_
  refine callV_I (rest := []) C hI (c_X6_noStretches l g X am x1 st) (cwV 1 hts gX6_border_X6_noStretches rfl rfl rfl hv_X6_noStretches ⟨Nat.le_of_ble_eq_true rfl, Nat.le_of_ble_eq_true rfl⟩) (w_recv C hI X.length wM_ob rfl) rfl hl.1 rfl (Nat.le_of_ble_eq_true rfl) dX6_border_2 (fun H locs hI => ?_)
  refine gen_i h (fun r_1 h => ?_)
  refine lv_if_eq (tgt := 18) hx hb dX6_border_5 (by decide) (fun c_2 => ?_) (fun c_2 => ?_)
  · replace h := (if_pos c_2).symm.trans h
    refine lv_iload_n hx hb dX6_border_18 rfl (lv_at hl 2 rfl) ?_
    refine lv_iconst (v := 0) hx hb dX6_border_19 (by decide) ?_
    refine lv_iload_n hx hb dX6_border_20 rfl (lv_at hl 1 rfl) ?_
    refine lv_iconst (v := 1) hx hb dX6_border_21 (by decide) ?_
    refine lv_isub hx hb dX6_border_22 ?_
    refine callS_S (rest := []) C.1 (c_X6_within l x2 0 (x1 - 1)) (va_cwS 3 hts gX6_border_X6_within rfl rfl rfl hd_X6_within ⟨Nat.le_of_ble_eq_true rfl, Nat.le_of_ble_eq_true rfl⟩) rfl hl.1 rfl (Nat.le_of_ble_eq_true rfl) dX6_border_23 ?_
    refine gen_b h (fun r_3 h => ?_)
    refine lv_if_ne (tgt := 36) hx hb dX6_border_26 (by decide) (fun c_4 => ?_) (fun c_4 => ?_)
    · replace h := (if_neg c_4).symm.trans h
      refine lv_aload_n hx hb dX6_border_36 rfl (lv_at hl 0 rfl) ?_
      refine lv_sipush (v := 4095) hx hb dX6_border_37 (by decide) ?_
      obtain ⟨st_6, hr_5, h⟩ := bd1_some h
      refine callV_V (rest := []) C hI (c_X6_search l g X am N 4095 st hr_5) (cwV 1 hts gX6_border_X6_search rfl rfl rfl hv_X6_search ⟨Nat.le_of_ble_eq_true rfl, Nat.le_of_ble_eq_true rfl⟩) (w_recv C hI X.length wM_ob rfl) rfl hl.1 rfl (Nat.le_of_ble_eq_true rfl) dX6_border_40 (fun H locs hI => ?_)
      refine lv_aload_n hx hb dX6_border_43 rfl (lv_at hl 0 rfl) ?_
      refine lv_iload_n hx hb dX6_border_44 rfl (lv_at hl 1 rfl) ?_
      obtain ⟨st_8, hr_7, h⟩ := bd1_some h
      refine callV_V (rest := []) C hI (c_X6_part l g X am N x1 st_6 hr_7) (cwV 1 hts gX6_border_X6_part rfl rfl rfl hv_X6_part ⟨Nat.le_of_ble_eq_true rfl, Nat.le_of_ble_eq_true rfl⟩) (w_recv C hI X.length wM_ob rfl) rfl hl.1 rfl (Nat.le_of_ble_eq_true rfl) dX6_border_45 (fun H locs hI => ?_)
      refine lv_iload_n hx hb dX6_border_48 rfl (lv_at hl 2 rfl) ?_
      refine lv_istore_n (lv' := [(3, .int x2), (0, .ref (am 0)), (1, .int x1), (2, .int x2)]) hx hb dX6_border_49 rfl hl (by decide) rfl (fun ls hl => ?_)
      refine lv_iconst (v := 0) hx hb dX6_border_50 (by decide) ?_
      refine lv_istore (lv' := [(4, .int 0), (3, .int x2), (0, .ref (am 0)), (1, .int x1), (2, .int x2)]) hx hb dX6_border_51 hl (by decide) rfl (fun ls hl => ?_)
      refine wl_X6_border_L53 C hret N st_8 _ (fun a_11 a_12 H locs ls h hI hl => ?_) N x2 0 H locs ls h hI (lv_sub hl [2, 1, 0] rfl)
      refine lv_iload hx hb dX6_border_75 (lv_at hl 2 rfl) ?_
      obtain ⟨rfl, rfl⟩ := ret2 h
      exact hret H locs _ ls hI dX6_border_77
    · replace h := (if_pos c_4).symm.trans h
      refine lv_aload_n hx hb dX6_border_29 rfl (lv_at hl 0 rfl) ?_
      refine lv_ldc (v := (-100001)) hx hb hown lc48 dX6_border_30 ?_
      obtain ⟨r_14, st_15, hr_13, h⟩ := bd2_some h
      refine callV_I (rest := []) C hI (c_X6_finding l g X am (-100001 : Int32) st hr_13) (cwV 1 hts gX6_border_X6_finding rfl rfl rfl hv_X6_finding ⟨Nat.le_of_ble_eq_true rfl, Nat.le_of_ble_eq_true rfl⟩) (w_recv C hI X.length wM_ob rfl) rfl hl.1 rfl (Nat.le_of_ble_eq_true rfl) dX6_border_32 (fun H locs hI => ?_)
      obtain ⟨rfl, rfl⟩ := ret2 h
      exact hret H locs _ ls hI dX6_border_35
  · replace h := (if_neg c_2).symm.trans h
    refine lv_aload_n hx hb dX6_border_8 rfl (lv_at hl 0 rfl) ?_
    refine lv_aload_n hx hb dX6_border_9 rfl (lv_at hl 0 rfl) ?_
    refine lv_iload_n hx hb dX6_border_10 rfl (lv_at hl 1 rfl) ?_
    refine callV_I (rest := [.ref (am 0)]) C hI (c_X6_noStretches l g X am x1 st) (cwV 1 hts gX6_border_X6_noStretches rfl rfl rfl hv_X6_noStretches ⟨Nat.le_of_ble_eq_true rfl, Nat.le_of_ble_eq_true rfl⟩) (w_recv C hI X.length wM_ob rfl) rfl hl.1 rfl (Nat.le_of_ble_eq_true rfl) dX6_border_11 (fun H locs hI => ?_)
    refine gen_i h (fun r_16 h => ?_)
    obtain ⟨r_18, st_19, hr_17, h⟩ := bd2_some h
    refine callV_I (rest := []) C hI (c_X6_finding l g X am r_16 st hr_17) (cwV 1 hts gX6_border_X6_finding rfl rfl rfl hv_X6_finding ⟨Nat.le_of_ble_eq_true rfl, Nat.le_of_ble_eq_true rfl⟩) (w_recv C hI X.length wM_ob rfl) rfl hl.1 rfl (Nat.le_of_ble_eq_true rfl) dX6_border_14 (fun H locs hI => ?_)
    obtain ⟨rfl, rfl⟩ := ret2 h
    exact hret H locs _ ls hI dX6_border_17
theorem hv_X6_border : yX6_border.cls = RX6 ∧ yX6_border.cls ≠ "java/lang/invoke/MethodHandle" ∧ yX6_border.cls ≠ "java/lang/invoke/VarHandle" ∧ (parseMethodDescriptor yX6_border.desc).map (fun d => d.parameters.length) = some 2 := by decide +kernel
