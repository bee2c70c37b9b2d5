/-! X5_orderHindrance -/
def rmX5_orderHindrance : Room := { frames := 0, cells := 0, slots := 0, locals := 0 }
def f_X5_orderHindrance (st : St) : Int32 := if st 13 0 = 0 then -100006 else if st 13 0 ≤ 8 then 0 else -100008
set_option maxHeartbeats 4000000 in
set_option maxRecDepth 100000 in
theorem c_X5_orderHindrance (l : Launch) (g : GP) (Y : va_W) (ad : Nat → Nat)  (st : St) : MetI l yX5_orderHindrance wsX5_orderHindrance rmX5_orderHindrance g (wCX g Y ad) [.ref (ad 0)] st (f_X5_orderHindrance st) st := by
  refine metI_of (cc := cX5_orderHindrance) (nL := 1) (ty := .int) (by decide) rfl (Nat.le_of_ble_eq_true rfl) rfl ?_
  intro p e s m below meth c Q A C hret H locs hI ls hl
  have C : Cx p s m _ c cX5_orderHindrance 1 wsX5_orderHindrance RX5 g A := C
  obtain ⟨hx, hb, hml, hown, hts⟩ := id C.1
  have hl : lv_has ls 1 [(0, .ref (ad 0))] := hl
  have hinRX5 : ∀ w ∈ u_ws RX5 TX5 7, w ∈ wsX5_orderHindrance := by decide +kernel
  have lk12 := hts (.fieldLink RX5 12 "GraveRows" "ground" "LGraveRows$Ground;") (by decide +kernel)
  have hinRX2 : ∀ w ∈ u_ws RX2 TX2 7, w ∈ wsX5_orderHindrance := by decide +kernel
  have lk52 := hts (.fieldLink RX5 52 "GraveRows$Ground" "size" "I") (by decide +kernel)
  have lc285 := hts (.constant RX5 285 (-100008)) (by decide +kernel)
  have lc125 := hts (.constant RX5 125 (-100006)) (by decide +kernel)
  generalize hgen : f_X5_orderHindrance st = r at hret
  have h := hgen
  rw [f_X5_orderHindrance] at h
  refine lv_aload_n hx hb dX5_orderHindrance_0 rfl (lv_at hl 0 rfl) ?_
  refine w_get (v := .ref (ad 1)) C hinRX5 hI 0 at_C rfl 0 (by decide) lk12 rfl rfl dX5_orderHindrance_1 ?_
  refine w_get (v := .int (st 13 0)) C hinRX2 hI 1 at_G0 rfl 5 (by decide) lk52 rfl rfl dX5_orderHindrance_4 ?_
  refine lv_if_ne (tgt := 13) hx hb dX5_orderHindrance_7 (by decide) (fun c_1 => ?_) (fun c_1 => ?_)
  · replace h := (if_neg c_1).symm.trans h
    refine lv_aload_n hx hb dX5_orderHindrance_13 rfl (lv_at hl 0 rfl) ?_
    refine w_get (v := .ref (ad 1)) C hinRX5 hI 0 at_C rfl 0 (by decide) lk12 rfl rfl dX5_orderHindrance_14 ?_
    refine w_get (v := .int (st 13 0)) C hinRX2 hI 1 at_G0 rfl 5 (by decide) lk52 rfl rfl dX5_orderHindrance_17 ?_
    refine lv_bipush (v := 8) hx hb dX5_orderHindrance_20 (by decide) ?_
    refine lv_icmp_le (tgt := 31) hx hb dX5_orderHindrance_22 (by decide) (fun c_2 => ?_) (fun c_2 => ?_)
    · replace h := (if_pos c_2).symm.trans h
      refine lv_iconst (v := 0) hx hb dX5_orderHindrance_31 (by decide) ?_
      subst h
      exact hret H locs _ ls hI dX5_orderHindrance_32
    · replace h := (if_neg c_2).symm.trans h
      refine lv_ldcw (v := (-100008)) hx hb hown lc285 dX5_orderHindrance_25 ?_
      refine lv_goto (tgt := 32) hx hb dX5_orderHindrance_28 (by decide) ?_
      subst h
      exact hret H locs _ ls hI dX5_orderHindrance_32
  · replace h := (if_pos c_1).symm.trans h
    refine lv_ldc (v := (-100006)) hx hb hown lc125 dX5_orderHindrance_10 ?_
    subst h
    exact hret H locs _ ls hI dX5_orderHindrance_12
theorem hv_X5_orderHindrance : yX5_orderHindrance.cls = RX5 ∧ yX5_orderHindrance.cls ≠ "java/lang/invoke/MethodHandle" ∧ yX5_orderHindrance.cls ≠ "java/lang/invoke/VarHandle" ∧ (parseMethodDescriptor yX5_orderHindrance.desc).map (fun d => d.parameters.length) = some 0 := by decide +kernel
/-! X5_order -/
def rmX5_order : Room := { frames := 4, cells := 0, slots := 0, locals := 92 }
def f_X5_order (N : Nat) (st : St) : Option (Int32 × St) := bnd (f_X5_orderHindrance st) fun r_1 => if r_1 = 0 then bd1 (f_X3_solve N st 4095) fun st_4 => bnd (f_X3_leastCost st_4) fun r_5 => some (r_5, st_4) else bd2 (f_X5_finding st r_1) fun r_7 st_8 => some (r_7, st_8)
set_option maxHeartbeats 4000000 in
set_option maxRecDepth 100000 in
theorem c_X5_order (l : Launch) (g : GP) (Y : va_W) (ad : Nat → Nat) (N : Nat)  (st : St) {r : Int32} {st' : St} (h : f_X5_order N st = some (r, st')) : MetI l yX5_order wsX5_order rmX5_order g (wCX g Y ad) [.ref (ad 0)] st (r) st' := by
  refine metI_of (cc := cX5_order) (nL := 2) (ty := .int) (by decide) rfl (Nat.le_of_ble_eq_true rfl) rfl ?_
  intro p e s m below meth c Q A C hret H locs hI ls hl
  have C : Cx p s m _ c cX5_order 2 wsX5_order RX5 g A := C
  obtain ⟨hx, hb, hml, hown, hts⟩ := id C.1
  have hl : lv_has ls 2 [(0, .ref (ad 0))] := hl
  have hinRX5 : ∀ w ∈ u_ws RX5 TX5 7, w ∈ wsX5_order := by decide +kernel
  have lk29 := hts (.fieldLink RX5 29 "GraveRows" "search" "LGraveRows$RowSearch;") (by decide +kernel)
  have lk12 := hts (.fieldLink RX5 12 "GraveRows" "ground" "LGraveRows$Ground;") (by decide +kernel)
  rw [f_X5_order] at h
  refine lv_aload_n hx hb dX5_order_0 rfl (lv_at hl 0 rfl) ?_
  refine callV_I (rest := []) C hI (c_X5_orderHindrance l g Y ad st) (cwV 0 hts gX5_order_X5_orderHindrance rfl rfl rfl hv_X5_orderHindrance ⟨Nat.le_of_ble_eq_true rfl, Nat.le_of_ble_eq_true rfl⟩) (w_recv C hI 0 at_C rfl) rfl hl.1 rfl (Nat.le_of_ble_eq_true rfl) dX5_order_1 (fun H locs hI => ?_)
  refine gen_i h (fun r_1 h => ?_)
  refine lv_istore_n (lv' := [(1, .int r_1), (0, .ref (ad 0))]) hx hb dX5_order_4 rfl hl (by decide) rfl (fun ls hl => ?_)
  refine lv_iload_n hx hb dX5_order_5 rfl (lv_at hl 0 rfl) ?_
  refine lv_if_eq (tgt := 15) hx hb dX5_order_6 (by decide) (fun c_2 => ?_) (fun c_2 => ?_)
  · replace h := (if_pos c_2).symm.trans h
    refine lv_aload_n hx hb dX5_order_15 rfl (lv_at hl 1 rfl) ?_
    refine w_get (v := .ref (ad 42)) C hinRX5 hI 0 at_C rfl 3 (by decide) lk29 rfl rfl dX5_order_16 ?_
    refine lv_aload_n hx hb dX5_order_19 rfl (lv_at hl 1 rfl) ?_
    refine w_get (v := .ref (ad 1)) C hinRX5 hI 0 at_C rfl 0 (by decide) lk12 rfl rfl dX5_order_20 ?_
    refine lv_sipush (v := 4095) hx hb dX5_order_23 (by decide) ?_
    obtain ⟨st_4, hr_3, h⟩ := bd1_some h
    refine callV_V (rest := []) C hI (c_X3_solve l g Y ad N 4095 st hr_3) (cwV 2 hts gX5_order_X3_solve rfl rfl rfl hv_X3_solve ⟨Nat.le_of_ble_eq_true rfl, Nat.le_of_ble_eq_true rfl⟩) (w_recv C hI 42 at_R rfl) rfl hl.1 rfl (Nat.le_of_ble_eq_true rfl) dX5_order_26 (fun H locs hI => ?_)
    refine lv_aload_n hx hb dX5_order_29 rfl (lv_at hl 1 rfl) ?_
    refine w_get (v := .ref (ad 42)) C hinRX5 hI 0 at_C rfl 3 (by decide) lk29 rfl rfl dX5_order_30 ?_
    refine callV_I (rest := []) C hI (c_X3_leastCost l g Y ad st_4) (cwV 0 hts gX5_order_X3_leastCost rfl rfl rfl hv_X3_leastCost ⟨Nat.le_of_ble_eq_true rfl, Nat.le_of_ble_eq_true rfl⟩) (w_recv C hI 42 at_R rfl) rfl hl.1 rfl (Nat.le_of_ble_eq_true rfl) dX5_order_33 (fun H locs hI => ?_)
    refine gen_i h (fun r_5 h => ?_)
    obtain ⟨rfl, rfl⟩ := ret2 h
    exact hret H locs _ ls hI dX5_order_36
  · replace h := (if_neg c_2).symm.trans h
    refine lv_aload_n hx hb dX5_order_9 rfl (lv_at hl 1 rfl) ?_
    refine lv_iload_n hx hb dX5_order_10 rfl (lv_at hl 0 rfl) ?_
    obtain ⟨r_7, st_8, hr_6, h⟩ := bd2_some h
    refine callV_I (rest := []) C hI (c_X5_finding l g Y ad r_1 st hr_6) (cwV 1 hts gX5_order_X5_finding rfl rfl rfl hv_X5_finding ⟨Nat.le_of_ble_eq_true rfl, Nat.le_of_ble_eq_true rfl⟩) (w_recv C hI 0 at_C rfl) rfl hl.1 rfl (Nat.le_of_ble_eq_true rfl) dX5_order_11 (fun H locs hI => ?_)
    obtain ⟨rfl, rfl⟩ := ret2 h
    exact hret H locs _ ls hI dX5_order_14
theorem hv_X5_order : yX5_order.cls = RX5 ∧ yX5_order.cls ≠ "java/lang/invoke/MethodHandle" ∧ yX5_order.cls ≠ "java/lang/invoke/VarHandle" ∧ (parseMethodDescriptor yX5_order.desc).map (fun d => d.parameters.length) = some 0 := by decide +kernel
/-! X5_at -/
def rmX5_at : Room := { frames := 4, cells := 0, slots := 0, locals := 92 }
def f_X5_at (N : Nat) (st : St) (x1 : Int32) : Option (Int32 × St) := bnd (f_X5_orderHindrance st) fun r_1 => if r_1 = 0 then if x1 < 0 then bd2 (f_X5_finding st (-100001 : Int32)) fun r_5 st_6 => some (r_5, st_6) else if x1 < st 13 0 then bd1 (f_X3_solve N st 4095) fun st_9 => ck 8 x1 fun j_10 => some (st_9 46 j_10, st_9) else bd2 (f_X5_finding st (-100001 : Int32)) fun r_12 st_13 => some (r_12, st_13) else bd2 (f_X5_finding st r_1) fun r_15 st_16 => some (r_15, st_16)
set_option maxHeartbeats 4000000 in
set_option maxRecDepth 100000 in
theorem c_X5_at (l : Launch) (g : GP) (Y : va_W) (ad : Nat → Nat) (N : Nat) (x1 : Int32)  (st : St) {r : Int32} {st' : St} (h : f_X5_at N st x1 = some (r, st')) : MetI l yX5_at wsX5_at rmX5_at g (wCX g Y ad) [.ref (ad 0), .int x1] st (r) st' := by
  refine metI_of (cc := cX5_at) (nL := 3) (ty := .int) (by decide) rfl (Nat.le_of_ble_eq_true rfl) rfl ?_
  intro p e s m below meth c Q A C hret H locs hI ls hl
  have C : Cx p s m _ c cX5_at 3 wsX5_at RX5 g A := C
  obtain ⟨hx, hb, hml, hown, hts⟩ := id C.1
  have hl : lv_has ls 3 [(0, .ref (ad 0)), (1, .int x1)] := hl
  have lc47 := hts (.constant RX5 47 (-100001)) (by decide +kernel)
  have hinRX5 : ∀ w ∈ u_ws RX5 TX5 7, w ∈ wsX5_at := by decide +kernel
  have lk12 := hts (.fieldLink RX5 12 "GraveRows" "ground" "LGraveRows$Ground;") (by decide +kernel)
  have hinRX2 : ∀ w ∈ u_ws RX2 TX2 7, w ∈ wsX5_at := by decide +kernel
  have lk52 := hts (.fieldLink RX5 52 "GraveRows$Ground" "size" "I") (by decide +kernel)
  have lk29 := hts (.fieldLink RX5 29 "GraveRows" "search" "LGraveRows$RowSearch;") (by decide +kernel)
  have hinRX3 : ∀ w ∈ u_ws RX3 TX3 8, w ∈ wsX5_at := by decide +kernel
  have lk180 := hts (.fieldLink RX5 180 "GraveRows$RowSearch" "row" "[I") (by decide +kernel)
  rw [f_X5_at] at h
  refine lv_aload_n hx hb dX5_at_0 rfl (lv_at hl 0 rfl) ?_
  refine callV_I (rest := []) C hI (c_X5_orderHindrance l g Y ad st) (cwV 0 hts gX5_at_X5_orderHindrance rfl rfl rfl hv_X5_orderHindrance ⟨Nat.le_of_ble_eq_true rfl, Nat.le_of_ble_eq_true rfl⟩) (w_recv C hI 0 at_C rfl) rfl hl.1 rfl (Nat.le_of_ble_eq_true rfl) dX5_at_1 (fun H locs hI => ?_)
  refine gen_i h (fun r_1 h => ?_)
  refine lv_istore_n (lv' := [(2, .int r_1), (0, .ref (ad 0)), (1, .int x1)]) hx hb dX5_at_4 rfl hl (by decide) rfl (fun ls hl => ?_)
  refine lv_iload_n hx hb dX5_at_5 rfl (lv_at hl 0 rfl) ?_
  refine lv_if_eq (tgt := 15) hx hb dX5_at_6 (by decide) (fun c_2 => ?_) (fun c_2 => ?_)
  · replace h := (if_pos c_2).symm.trans h
    refine lv_iload_n hx hb dX5_at_15 rfl (lv_at hl 2 rfl) ?_
    refine lv_if_lt (tgt := 30) hx hb dX5_at_16 (by decide) (fun c_3 => ?_) (fun c_3 => ?_)
    · replace h := (if_pos c_3).symm.trans h
      refine lv_aload_n hx hb dX5_at_30 rfl (lv_at hl 1 rfl) ?_
      refine lv_ldc (v := (-100001)) hx hb hown lc47 dX5_at_31 ?_
      obtain ⟨r_5, st_6, hr_4, h⟩ := bd2_some h
      refine callV_I (rest := []) C hI (c_X5_finding l g Y ad (-100001 : Int32) st hr_4) (cwV 1 hts gX5_at_X5_finding rfl rfl rfl hv_X5_finding ⟨Nat.le_of_ble_eq_true rfl, Nat.le_of_ble_eq_true rfl⟩) (w_recv C hI 0 at_C rfl) rfl hl.1 rfl (Nat.le_of_ble_eq_true rfl) dX5_at_33 (fun H locs hI => ?_)
      obtain ⟨rfl, rfl⟩ := ret2 h
      exact hret H locs _ ls hI dX5_at_36
    · replace h := (if_neg c_3).symm.trans h
      refine lv_iload_n hx hb dX5_at_19 rfl (lv_at hl 2 rfl) ?_
      refine lv_aload_n hx hb dX5_at_20 rfl (lv_at hl 1 rfl) ?_
      refine w_get (v := .ref (ad 1)) C hinRX5 hI 0 at_C rfl 0 (by decide) lk12 rfl rfl dX5_at_21 ?_
      refine w_get (v := .int (st 13 0)) C hinRX2 hI 1 at_G0 rfl 5 (by decide) lk52 rfl rfl dX5_at_24 ?_
      refine lv_icmp_lt (tgt := 37) hx hb dX5_at_27 (by decide) (fun c_7 => ?_) (fun c_7 => ?_)
      · replace h := (if_pos c_7).symm.trans h
        refine lv_aload_n hx hb dX5_at_37 rfl (lv_at hl 1 rfl) ?_
        refine w_get (v := .ref (ad 42)) C hinRX5 hI 0 at_C rfl 3 (by decide) lk29 rfl rfl dX5_at_38 ?_
        refine lv_aload_n hx hb dX5_at_41 rfl (lv_at hl 1 rfl) ?_
        refine w_get (v := .ref (ad 1)) C hinRX5 hI 0 at_C rfl 0 (by decide) lk12 rfl rfl dX5_at_42 ?_
        refine lv_sipush (v := 4095) hx hb dX5_at_45 (by decide) ?_
        obtain ⟨st_9, hr_8, h⟩ := bd1_some h
        refine callV_V (rest := []) C hI (c_X3_solve l g Y ad N 4095 st hr_8) (cwV 2 hts gX5_at_X3_solve rfl rfl rfl hv_X3_solve ⟨Nat.le_of_ble_eq_true rfl, Nat.le_of_ble_eq_true rfl⟩) (w_recv C hI 42 at_R rfl) rfl hl.1 rfl (Nat.le_of_ble_eq_true rfl) dX5_at_48 (fun H locs hI => ?_)
        refine lv_aload_n hx hb dX5_at_51 rfl (lv_at hl 1 rfl) ?_
        refine w_get (v := .ref (ad 42)) C hinRX5 hI 0 at_C rfl 3 (by decide) lk29 rfl rfl dX5_at_52 ?_
        refine w_get (v := .ref (ad 49)) C hinRX3 hI 42 at_R rfl 6 (by decide) lk180 rfl rfl dX5_at_55 ?_
        refine lv_iload_n hx hb dX5_at_58 rfl (lv_at hl 2 rfl) ?_
        refine w_ld C hI 49 ar_49 h dX5_at_59 (fun j_10 hj_10 h => ?_)
        obtain ⟨rfl, rfl⟩ := ret2 h
        exact hret H locs _ ls hI dX5_at_60
      · replace h := (if_neg c_7).symm.trans h
        refine lv_aload_n hx hb dX5_at_30 rfl (lv_at hl 1 rfl) ?_
        refine lv_ldc (v := (-100001)) hx hb hown lc47 dX5_at_31 ?_
        obtain ⟨r_12, st_13, hr_11, h⟩ := bd2_some h
        refine callV_I (rest := []) C hI (c_X5_finding l g Y ad (-100001 : Int32) st hr_11) (cwV 1 hts gX5_at_X5_finding rfl rfl rfl hv_X5_finding ⟨Nat.le_of_ble_eq_true rfl, Nat.le_of_ble_eq_true rfl⟩) (w_recv C hI 0 at_C rfl) rfl hl.1 rfl (Nat.le_of_ble_eq_true rfl) dX5_at_33 (fun H locs hI => ?_)
        obtain ⟨rfl, rfl⟩ := ret2 h
        exact hret H locs _ ls hI dX5_at_36
  · replace h := (if_neg c_2).symm.trans h
    refine lv_aload_n hx hb dX5_at_9 rfl (lv_at hl 1 rfl) ?_
    refine lv_iload_n hx hb dX5_at_10 rfl (lv_at hl 0 rfl) ?_
    obtain ⟨r_15, st_16, hr_14, h⟩ := bd2_some h
    refine callV_I (rest := []) C hI (c_X5_finding l g Y ad r_1 st hr_14) (cwV 1 hts gX5_at_X5_finding rfl rfl rfl hv_X5_finding ⟨Nat.le_of_ble_eq_true rfl, Nat.le_of_ble_eq_true rfl⟩) (w_recv C hI 0 at_C rfl) rfl hl.1 rfl (Nat.le_of_ble_eq_true rfl) dX5_at_11 (fun H locs hI => ?_)
    obtain ⟨rfl, rfl⟩ := ret2 h
    exact hret H locs _ ls hI dX5_at_14
theorem hv_X5_at : yX5_at.cls = RX5 ∧ yX5_at.cls ≠ "java/lang/invoke/MethodHandle" ∧ yX5_at.cls ≠ "java/lang/invoke/VarHandle" ∧ (parseMethodDescriptor yX5_at.desc).map (fun d => d.parameters.length) = some 1 := by decide +kernel
/-! X5_holes -/
def rmX5_holes : Room := { frames := 4, cells := 0, slots := 0, locals := 92 }
def f_X5_holes (N : Nat) (st : St) (x1 : Int32) : Option (Int32 × St) := bnd (f_X5_isGood x1) fun r_1 => if b2i r_1 = 0 then bd2 (f_X5_finding st (-100001 : Int32)) fun r_13 st_14 => some (r_13, st_14) else bnd (f_X5_orderHindrance st) fun r_3 => if r_3 = 0 then bd1 (f_X3_solve N st 4095) fun st_6 => bd1 (f_X3_holesOf N st_6 x1) fun r_8 => some (r_8, st_6) else bd2 (f_X5_finding st r_3) fun r_10 st_11 => some (r_10, st_11)
set_option maxHeartbeats 4000000 in
set_option maxRecDepth 100000 in
theorem c_X5_holes (l : Launch) (g : GP) (Y : va_W) (ad : Nat → Nat) (N : Nat) (x1 : Int32)  (st : St) {r : Int32} {st' : St} (h : f_X5_holes N st x1 = some (r, st')) : MetI l yX5_holes wsX5_holes rmX5_holes g (wCX g Y ad) [.ref (ad 0), .int x1] st (r) st' := by
  refine metI_of (cc := cX5_holes) (nL := 3) (ty := .int) (by decide) rfl (Nat.le_of_ble_eq_true rfl) rfl ?_
  intro p e s m below meth c Q A C hret H locs hI ls hl
  have C : Cx p s m _ c cX5_holes 3 wsX5_holes RX5 g A := C
  obtain ⟨hx, hb, hml, hown, hts⟩ := id C.1
  have hl : lv_has ls 3 [(0, .ref (ad 0)), (1, .int x1)] := hl
  have hinRX5 : ∀ w ∈ u_ws RX5 TX5 7, w ∈ wsX5_holes := by decide +kernel
  have lk29 := hts (.fieldLink RX5 29 "GraveRows" "search" "LGraveRows$RowSearch;") (by decide +kernel)
  have lk12 := hts (.fieldLink RX5 12 "GraveRows" "ground" "LGraveRows$Ground;") (by decide +kernel)
  have lc47 := hts (.constant RX5 47 (-100001)) (by decide +kernel)
  rw [f_X5_holes] at h
  refine lv_iload_n hx hb dX5_holes_0 rfl (lv_at hl 1 rfl) ?_
  refine callS_S (rest := []) C.1 (c_X5_isGood l x1) (va_cwS 1 hts gX5_holes_X5_isGood rfl rfl rfl hd_X5_isGood ⟨Nat.le_of_ble_eq_true rfl, Nat.le_of_ble_eq_true rfl⟩) rfl hl.1 rfl (Nat.le_of_ble_eq_true rfl) dX5_holes_1 ?_
  refine gen_b h (fun r_1 h => ?_)
  refine lv_if_ne (tgt := 14) hx hb dX5_holes_4 (by decide) (fun c_2 => ?_) (fun c_2 => ?_)
  · replace h := (if_neg c_2).symm.trans h
    refine lv_aload_n hx hb dX5_holes_14 rfl (lv_at hl 0 rfl) ?_
    refine callV_I (rest := []) C hI (c_X5_orderHindrance l g Y ad st) (cwV 0 hts gX5_holes_X5_orderHindrance rfl rfl rfl hv_X5_orderHindrance ⟨Nat.le_of_ble_eq_true rfl, Nat.le_of_ble_eq_true rfl⟩) (w_recv C hI 0 at_C rfl) rfl hl.1 rfl (Nat.le_of_ble_eq_true rfl) dX5_holes_15 (fun H locs hI => ?_)
    refine gen_i h (fun r_3 h => ?_)
    refine lv_istore_n (lv' := [(2, .int r_3), (0, .ref (ad 0)), (1, .int x1)]) hx hb dX5_holes_18 rfl hl (by decide) rfl (fun ls hl => ?_)
    refine lv_iload_n hx hb dX5_holes_19 rfl (lv_at hl 0 rfl) ?_
    refine lv_if_eq (tgt := 29) hx hb dX5_holes_20 (by decide) (fun c_4 => ?_) (fun c_4 => ?_)
    · replace h := (if_pos c_4).symm.trans h
      refine lv_aload_n hx hb dX5_holes_29 rfl (lv_at hl 1 rfl) ?_
      refine w_get (v := .ref (ad 42)) C hinRX5 hI 0 at_C rfl 3 (by decide) lk29 rfl rfl dX5_holes_30 ?_
      refine lv_aload_n hx hb dX5_holes_33 rfl (lv_at hl 1 rfl) ?_
      refine w_get (v := .ref (ad 1)) C hinRX5 hI 0 at_C rfl 0 (by decide) lk12 rfl rfl dX5_holes_34 ?_
      refine lv_sipush (v := 4095) hx hb dX5_holes_37 (by decide) ?_
      obtain ⟨st_6, hr_5, h⟩ := bd1_some h
      refine callV_V (rest := []) C hI (c_X3_solve l g Y ad N 4095 st hr_5) (cwV 2 hts gX5_holes_X3_solve rfl rfl rfl hv_X3_solve ⟨Nat.le_of_ble_eq_true rfl, Nat.le_of_ble_eq_true rfl⟩) (w_recv C hI 42 at_R rfl) rfl hl.1 rfl (Nat.le_of_ble_eq_true rfl) dX5_holes_40 (fun H locs hI => ?_)
      refine lv_aload_n hx hb dX5_holes_43 rfl (lv_at hl 1 rfl) ?_
      refine w_get (v := .ref (ad 42)) C hinRX5 hI 0 at_C rfl 3 (by decide) lk29 rfl rfl dX5_holes_44 ?_
      refine lv_iload_n hx hb dX5_holes_47 rfl (lv_at hl 2 rfl) ?_
      obtain ⟨r_8, hr_7, h⟩ := bd1_some h
      refine callV_I (rest := []) C hI (c_X3_holesOf l g Y ad N x1 st_6 hr_7) (cwV 1 hts gX5_holes_X3_holesOf rfl rfl rfl hv_X3_holesOf ⟨Nat.le_of_ble_eq_true rfl, Nat.le_of_ble_eq_true rfl⟩) (w_recv C hI 42 at_R rfl) rfl hl.1 rfl (Nat.le_of_ble_eq_true rfl) dX5_holes_48 (fun H locs hI => ?_)
      obtain ⟨rfl, rfl⟩ := ret2 h
      exact hret H locs _ ls hI dX5_holes_51
    · replace h := (if_neg c_4).symm.trans h
      refine lv_aload_n hx hb dX5_holes_23 rfl (lv_at hl 1 rfl) ?_
      refine lv_iload_n hx hb dX5_holes_24 rfl (lv_at hl 0 rfl) ?_
      obtain ⟨r_10, st_11, hr_9, h⟩ := bd2_some h
      refine callV_I (rest := []) C hI (c_X5_finding l g Y ad r_3 st hr_9) (cwV 1 hts gX5_holes_X5_finding rfl rfl rfl hv_X5_finding ⟨Nat.le_of_ble_eq_true rfl, Nat.le_of_ble_eq_true rfl⟩) (w_recv C hI 0 at_C rfl) rfl hl.1 rfl (Nat.le_of_ble_eq_true rfl) dX5_holes_25 (fun H locs hI => ?_)
      obtain ⟨rfl, rfl⟩ := ret2 h
      exact hret H locs _ ls hI dX5_holes_28
  · replace h := (if_pos c_2).symm.trans h
    refine lv_aload_n hx hb dX5_holes_7 rfl (lv_at hl 0 rfl) ?_
    refine lv_ldc (v := (-100001)) hx hb hown lc47 dX5_holes_8 ?_
    obtain ⟨r_13, st_14, hr_12, h⟩ := bd2_some h
    refine callV_I (rest := []) C hI (c_X5_finding l g Y ad (-100001 : Int32) st hr_12) (cwV 1 hts gX5_holes_X5_finding rfl rfl rfl hv_X5_finding ⟨Nat.le_of_ble_eq_true rfl, Nat.le_of_ble_eq_true rfl⟩) (w_recv C hI 0 at_C rfl) rfl hl.1 rfl (Nat.le_of_ble_eq_true rfl) dX5_holes_10 (fun H locs hI => ?_)
    obtain ⟨rfl, rfl⟩ := ret2 h
    exact hret H locs _ ls hI dX5_holes_13
theorem hv_X5_holes : yX5_holes.cls = RX5 ∧ yX5_holes.cls ≠ "java/lang/invoke/MethodHandle" ∧ yX5_holes.cls ≠ "java/lang/invoke/VarHandle" ∧ (parseMethodDescriptor yX5_holes.desc).map (fun d => d.parameters.length) = some 1 := by decide +kernel
/-! X5_good -/
def rmX5_good : Room := { frames := 4, cells := 0, slots := 0, locals := 92 }
def f_X5_good (N : Nat) (st : St) (x1 : Int32) (x2 : Bool) : Option (Int32 × St) := bnd (f_X5_isGood x1) fun r_1 => if b2i r_1 = 0 then bd2 (f_X5_finding st (-100001 : Int32)) fun r_22 st_23 => some (r_22, st_23) else bd1 (f_X2_havers N st x1) fun r_4 => if r_4 = 0 then bd2 (f_X5_finding st (-100006 : Int32)) fun r_19 st_20 => some (r_19, st_20) else bnd (f_X5_orderHindrance st) fun r_6 => if r_6 = 0 then bd1 (f_X3_solve N st 4095) fun st_9 => if b2i x2 = 0 then bd1 (f_X3_firstPlaceOf N st_9 x1) fun r_12 => some (r_12, st_9) else bd1 (f_X3_lastPlaceOf N st_9 x1) fun r_14 => some (r_14, st_9) else bd2 (f_X5_finding st r_6) fun r_16 st_17 => some (r_16, st_17)
set_option maxHeartbeats 4000000 in
set_option maxRecDepth 100000 in
theorem c_X5_good (l : Launch) (g : GP) (Y : va_W) (ad : Nat → Nat) (N : Nat) (x1 : Int32) (x2 : Bool)  (st : St) {r : Int32} {st' : St} (h : f_X5_good N st x1 x2 = some (r, st')) : MetI l yX5_good wsX5_good rmX5_good g (wCX g Y ad) [.ref (ad 0), .int x1, .int (b2i x2)] st (r) st' := by
  refine metI_of (cc := cX5_good) (nL := 4) (ty := .int) (by decide) rfl (Nat.le_of_ble_eq_true rfl) rfl ?_
  intro p e s m below meth c Q A C hret H locs hI ls hl
  have C : Cx p s m _ c cX5_good 4 wsX5_good RX5 g A := C
  obtain ⟨hx, hb, hml, hown, hts⟩ := id C.1
  have hl : lv_has ls 4 [(0, .ref (ad 0)), (1, .int x1), (2, .int (b2i x2))] := hl
  have hinRX5 : ∀ w ∈ u_ws RX5 TX5 7, w ∈ wsX5_good := by decide +kernel
  have lk12 := hts (.fieldLink RX5 12 "GraveRows" "ground" "LGraveRows$Ground;") (by decide +kernel)
  have lk29 := hts (.fieldLink RX5 29 "GraveRows" "search" "LGraveRows$RowSearch;") (by decide +kernel)
  have lc125 := hts (.constant RX5 125 (-100006)) (by decide +kernel)
  have lc47 := hts (.constant RX5 47 (-100001)) (by decide +kernel)
  rw [f_X5_good] at h
  refine lv_iload_n hx hb dX5_good_0 rfl (lv_at hl 1 rfl) ?_
  refine callS_S (rest := []) C.1 (c_X5_isGood l x1) (va_cwS 1 hts gX5_good_X5_isGood rfl rfl rfl hd_X5_isGood ⟨Nat.le_of_ble_eq_true rfl, Nat.le_of_ble_eq_true rfl⟩) rfl hl.1 rfl (Nat.le_of_ble_eq_true rfl) dX5_good_1 ?_
  refine gen_b h (fun r_1 h => ?_)
  refine lv_if_ne (tgt := 14) hx hb dX5_good_4 (by decide) (fun c_2 => ?_) (fun c_2 => ?_)
  · replace h := (if_neg c_2).symm.trans h
    refine lv_aload_n hx hb dX5_good_14 rfl (lv_at hl 0 rfl) ?_
    refine w_get (v := .ref (ad 1)) C hinRX5 hI 0 at_C rfl 0 (by decide) lk12 rfl rfl dX5_good_15 ?_
    refine lv_iload_n hx hb dX5_good_18 rfl (lv_at hl 1 rfl) ?_
    obtain ⟨r_4, hr_3, h⟩ := bd1_some h
    refine callV_I (rest := []) C hI (c_X2_havers l g Y ad N x1 st hr_3) (cwV 1 hts gX5_good_X2_havers rfl rfl rfl hv_X2_havers ⟨Nat.le_of_ble_eq_true rfl, Nat.le_of_ble_eq_true rfl⟩) (w_recv C hI 1 at_G0 rfl) rfl hl.1 rfl (Nat.le_of_ble_eq_true rfl) dX5_good_19 (fun H locs hI => ?_)
    refine lv_if_ne (tgt := 32) hx hb dX5_good_22 (by decide) (fun c_5 => ?_) (fun c_5 => ?_)
    · replace h := (if_neg c_5).symm.trans h
      refine lv_aload_n hx hb dX5_good_32 rfl (lv_at hl 0 rfl) ?_
      refine callV_I (rest := []) C hI (c_X5_orderHindrance l g Y ad st) (cwV 0 hts gX5_good_X5_orderHindrance rfl rfl rfl hv_X5_orderHindrance ⟨Nat.le_of_ble_eq_true rfl, Nat.le_of_ble_eq_true rfl⟩) (w_recv C hI 0 at_C rfl) rfl hl.1 rfl (Nat.le_of_ble_eq_true rfl) dX5_good_33 (fun H locs hI => ?_)
      refine gen_i h (fun r_6 h => ?_)
      refine lv_istore_n (lv' := [(3, .int r_6), (0, .ref (ad 0)), (1, .int x1), (2, .int (b2i x2))]) hx hb dX5_good_36 rfl hl (by decide) rfl (fun ls hl => ?_)
      refine lv_iload_n hx hb dX5_good_37 rfl (lv_at hl 0 rfl) ?_
      refine lv_if_eq (tgt := 47) hx hb dX5_good_38 (by decide) (fun c_7 => ?_) (fun c_7 => ?_)
      · replace h := (if_pos c_7).symm.trans h
        refine lv_aload_n hx hb dX5_good_47 rfl (lv_at hl 1 rfl) ?_
        refine w_get (v := .ref (ad 42)) C hinRX5 hI 0 at_C rfl 3 (by decide) lk29 rfl rfl dX5_good_48 ?_
        refine lv_aload_n hx hb dX5_good_51 rfl (lv_at hl 1 rfl) ?_
        refine w_get (v := .ref (ad 1)) C hinRX5 hI 0 at_C rfl 0 (by decide) lk12 rfl rfl dX5_good_52 ?_
        refine lv_sipush (v := 4095) hx hb dX5_good_55 (by decide) ?_
        obtain ⟨st_9, hr_8, h⟩ := bd1_some h
        refine callV_V (rest := []) C hI (c_X3_solve l g Y ad N 4095 st hr_8) (cwV 2 hts gX5_good_X3_solve rfl rfl rfl hv_X3_solve ⟨Nat.le_of_ble_eq_true rfl, Nat.le_of_ble_eq_true rfl⟩) (w_recv C hI 42 at_R rfl) rfl hl.1 rfl (Nat.le_of_ble_eq_true rfl) dX5_good_58 (fun H locs hI => ?_)
        refine lv_iload_n hx hb dX5_good_61 rfl (lv_at hl 3 rfl) ?_
        refine lv_if_eq (tgt := 76) hx hb dX5_good_62 (by decide) (fun c_10 => ?_) (fun c_10 => ?_)
        · replace h := (if_pos c_10).symm.trans h
          refine lv_aload_n hx hb dX5_good_76 rfl (lv_at hl 1 rfl) ?_
          refine w_get (v := .ref (ad 42)) C hinRX5 hI 0 at_C rfl 3 (by decide) lk29 rfl rfl dX5_good_77 ?_
          refine lv_iload_n hx hb dX5_good_80 rfl (lv_at hl 2 rfl) ?_
          obtain ⟨r_12, hr_11, h⟩ := bd1_some h
          refine callV_I (rest := []) C hI (c_X3_firstPlaceOf l g Y ad N x1 st_9 hr_11) (cwV 1 hts gX5_good_X3_firstPlaceOf rfl rfl rfl hv_X3_firstPlaceOf ⟨Nat.le_of_ble_eq_true rfl, Nat.le_of_ble_eq_true rfl⟩) (w_recv C hI 42 at_R rfl) rfl hl.1 rfl (Nat.le_of_ble_eq_true rfl) dX5_good_81 (fun H locs hI => ?_)
          obtain ⟨rfl, rfl⟩ := ret2 h
          exact hret H locs _ ls hI dX5_good_84
        · replace h := (if_neg c_10).symm.trans h
          refine lv_aload_n hx hb dX5_good_65 rfl (lv_at hl 1 rfl) ?_
          refine w_get (v := .ref (ad 42)) C hinRX5 hI 0 at_C rfl 3 (by decide) lk29 rfl rfl dX5_good_66 ?_
          refine lv_iload_n hx hb dX5_good_69 rfl (lv_at hl 2 rfl) ?_
          obtain ⟨r_14, hr_13, h⟩ := bd1_some h
          refine callV_I (rest := []) C hI (c_X3_lastPlaceOf l g Y ad N x1 st_9 hr_13) (cwV 1 hts gX5_good_X3_lastPlaceOf rfl rfl rfl hv_X3_lastPlaceOf ⟨Nat.le_of_ble_eq_true rfl, Nat.le_of_ble_eq_true rfl⟩) (w_recv C hI 42 at_R rfl) rfl hl.1 rfl (Nat.le_of_ble_eq_true rfl) dX5_good_70 (fun H locs hI => ?_)
          refine lv_goto (tgt := 84) hx hb dX5_good_73 (by decide) ?_
          obtain ⟨rfl, rfl⟩ := ret2 h
          exact hret H locs _ ls hI dX5_good_84
      · replace h := (if_neg c_7).symm.trans h
        refine lv_aload_n hx hb dX5_good_41 rfl (lv_at hl 1 rfl) ?_
        refine lv_iload_n hx hb dX5_good_42 rfl (lv_at hl 0 rfl) ?_
        obtain ⟨r_16, st_17, hr_15, h⟩ := bd2_some h
        refine callV_I (rest := []) C hI (c_X5_finding l g Y ad r_6 st hr_15) (cwV 1 hts gX5_good_X5_finding rfl rfl rfl hv_X5_finding ⟨Nat.le_of_ble_eq_true rfl, Nat.le_of_ble_eq_true rfl⟩) (w_recv C hI 0 at_C rfl) rfl hl.1 rfl (Nat.le_of_ble_eq_true rfl) dX5_good_43 (fun H locs hI => ?_)
        obtain ⟨rfl, rfl⟩ := ret2 h
        exact hret H locs _ ls hI dX5_good_46
    · replace h := (if_pos c_5).symm.trans h
      refine lv_aload_n hx hb dX5_good_25 rfl (lv_at hl 0 rfl) ?_
      refine lv_ldc (v := (-100006)) hx hb hown lc125 dX5_good_26 ?_
      obtain ⟨r_19, st_20, hr_18, h⟩ := bd2_some h
      refine callV_I (rest := []) C hI (c_X5_finding l g Y ad (-100006 : Int32) st hr_18) (cwV 1 hts gX5_good_X5_finding rfl rfl rfl hv_X5_finding ⟨Nat.le_of_ble_eq_true rfl, Nat.le_of_ble_eq_true rfl⟩) (w_recv C hI 0 at_C rfl) rfl hl.1 rfl (Nat.le_of_ble_eq_true rfl) dX5_good_28 (fun H locs hI => ?_)
      obtain ⟨rfl, rfl⟩ := ret2 h
      exact hret H locs _ ls hI dX5_good_31
  · replace h := (if_pos c_2).symm.trans h
    refine lv_aload_n hx hb dX5_good_7 rfl (lv_at hl 0 rfl) ?_
    refine lv_ldc (v := (-100001)) hx hb hown lc47 dX5_good_8 ?_
    obtain ⟨r_22, st_23, hr_21, h⟩ := bd2_some h
    refine callV_I (rest := []) C hI (c_X5_finding l g Y ad (-100001 : Int32) st hr_21) (cwV 1 hts gX5_good_X5_finding rfl rfl rfl hv_X5_finding ⟨Nat.le_of_ble_eq_true rfl, Nat.le_of_ble_eq_true rfl⟩) (w_recv C hI 0 at_C rfl) rfl hl.1 rfl (Nat.le_of_ble_eq_true rfl) dX5_good_10 (fun H locs hI => ?_)
    obtain ⟨rfl, rfl⟩ := ret2 h
    exact hret H locs _ ls hI dX5_good_13
theorem hv_X5_good : yX5_good.cls = RX5 ∧ yX5_good.cls ≠ "java/lang/invoke/MethodHandle" ∧ yX5_good.cls ≠ "java/lang/invoke/VarHandle" ∧ (parseMethodDescriptor yX5_good.desc).map (fun d => d.parameters.length) = some 2 := by decide +kernel
/-! X5_tell -/
def rmX5_tell : Room := { frames := 1, cells := 0, slots := 0, locals := 21 }
def f_X5_tell (st : St) (x1 : Int32) : Option (Int32 × St) := if st 13 1 < 12 then sto 12 st 11 (st 13 1) x1 fun st_2 => bnd (sU st_2 13 1 ((st_2 13 1) + 1)) fun st_3 => some (st_3 13 1, st_3) else bd2 (f_X5_finding st (-100005 : Int32)) fun r_5 st_6 => some (r_5, st_6)
set_option maxHeartbeats 4000000 in
set_option maxRecDepth 100000 in
theorem c_X5_tell (l : Launch) (g : GP) (Y : va_W) (ad : Nat → Nat) (x1 : Int32)  (st : St) {r : Int32} {st' : St} (h : f_X5_tell st x1 = some (r, st')) : MetI l yX5_tell wsX5_tell rmX5_tell g (wCX g Y ad) [.ref (ad 0), .int x1] st (r) st' := by
  refine metI_of (cc := cX5_tell) (nL := 2) (ty := .int) (by decide) rfl (Nat.le_of_ble_eq_true rfl) rfl ?_
  intro p e s m below meth c Q A C hret H locs hI ls hl
  have C : Cx p s m _ c cX5_tell 2 wsX5_tell RX5 g A := C
  obtain ⟨hx, hb, hml, hown, hts⟩ := id C.1
  have hl : lv_has ls 2 [(0, .ref (ad 0)), (1, .int x1)] := hl
  have hinRX5 : ∀ w ∈ u_ws RX5 TX5 7, w ∈ wsX5_tell := by decide +kernel
  have lk12 := hts (.fieldLink RX5 12 "GraveRows" "ground" "LGraveRows$Ground;") (by decide +kernel)
  have hinRX2 : ∀ w ∈ u_ws RX2 TX2 7, w ∈ wsX5_tell := by decide +kernel
  have lk198 := hts (.fieldLink RX5 198 "GraveRows$Ground" "waits" "I") (by decide +kernel)
  have lk201 := hts (.fieldLink RX5 201 "GraveRows$Ground" "waiting" "[I") (by decide +kernel)
  have lc56 := hts (.constant RX5 56 (-100005)) (by decide +kernel)
  rw [f_X5_tell] at h
  refine lv_aload_n hx hb dX5_tell_0 rfl (lv_at hl 0 rfl) ?_
  refine w_get (v := .ref (ad 1)) C hinRX5 hI 0 at_C rfl 0 (by decide) lk12 rfl rfl dX5_tell_1 ?_
  refine w_get (v := .int (st 13 1)) C hinRX2 hI 1 at_G0 rfl 6 (by decide) lk198 rfl rfl dX5_tell_4 ?_
  refine lv_bipush (v := 12) hx hb dX5_tell_7 (by decide) ?_
  refine lv_icmp_lt (tgt := 19) hx hb dX5_tell_9 (by decide) (fun c_1 => ?_) (fun c_1 => ?_)
  · replace h := (if_pos c_1).symm.trans h
    refine lv_aload_n hx hb dX5_tell_19 rfl (lv_at hl 0 rfl) ?_
    refine w_get (v := .ref (ad 1)) C hinRX5 hI 0 at_C rfl 0 (by decide) lk12 rfl rfl dX5_tell_20 ?_
    refine w_get (v := .ref (ad 5)) C hinRX2 hI 1 at_G0 rfl 3 (by decide) lk201 rfl rfl dX5_tell_23 ?_
    refine lv_aload_n hx hb dX5_tell_26 rfl (lv_at hl 0 rfl) ?_
    refine w_get (v := .ref (ad 1)) C hinRX5 hI 0 at_C rfl 0 (by decide) lk12 rfl rfl dX5_tell_27 ?_
    refine w_get (v := .int (st 13 1)) C hinRX2 hI 1 at_G0 rfl 6 (by decide) lk198 rfl rfl dX5_tell_30 ?_
    refine lv_iload_n hx hb dX5_tell_33 rfl (lv_at hl 1 rfl) ?_
    refine w_st C hI 5 ar_5 sa_5 h dX5_tell_34 (fun st_2 H locs h hI => ?_)
    refine lv_aload_n hx hb dX5_tell_35 rfl (lv_at hl 0 rfl) ?_
    refine w_get (v := .ref (ad 1)) C hinRX5 hI 0 at_C rfl 0 (by decide) lk12 rfl rfl dX5_tell_36 ?_
    refine lv_dup hx hb dX5_tell_39 rfl ?_
    refine w_get (v := .int (st_2 13 1)) C hinRX2 hI 1 at_G0 rfl 6 (by decide) lk198 rfl rfl dX5_tell_40 ?_
    refine lv_iconst (v := 1) hx hb dX5_tell_43 (by decide) ?_
    refine lv_iadd hx hb dX5_tell_44 ?_
    refine w_put C hinRX2 tyX2 tyX2_ok nmX2 hI 1 at_G0 rfl 6 h st_G0_waits (by decide) (Nat.le_of_ble_eq_true rfl) lk198 ⟨rfl, rfl⟩ rfl rfl dX5_tell_45 (fun st_3 H locs h hI => ?_)
    refine lv_aload_n hx hb dX5_tell_48 rfl (lv_at hl 0 rfl) ?_
    refine w_get (v := .ref (ad 1)) C hinRX5 hI 0 at_C rfl 0 (by decide) lk12 rfl rfl dX5_tell_49 ?_
    refine w_get (v := .int (st_3 13 1)) C hinRX2 hI 1 at_G0 rfl 6 (by decide) lk198 rfl rfl dX5_tell_52 ?_
    obtain ⟨rfl, rfl⟩ := ret2 h
    exact hret H locs _ ls hI dX5_tell_55
  · replace h := (if_neg c_1).symm.trans h
    refine lv_aload_n hx hb dX5_tell_12 rfl (lv_at hl 0 rfl) ?_
    refine lv_ldc (v := (-100005)) hx hb hown lc56 dX5_tell_13 ?_
    obtain ⟨r_5, st_6, hr_4, h⟩ := bd2_some h
    refine callV_I (rest := []) C hI (c_X5_finding l g Y ad (-100005 : Int32) st hr_4) (cwV 1 hts gX5_tell_X5_finding rfl rfl rfl hv_X5_finding ⟨Nat.le_of_ble_eq_true rfl, Nat.le_of_ble_eq_true rfl⟩) (w_recv C hI 0 at_C rfl) rfl hl.1 rfl (Nat.le_of_ble_eq_true rfl) dX5_tell_15 (fun H locs hI => ?_)
    obtain ⟨rfl, rfl⟩ := ret2 h
    exact hret H locs _ ls hI dX5_tell_18
theorem hv_X5_tell : yX5_tell.cls = RX5 ∧ yX5_tell.cls ≠ "java/lang/invoke/MethodHandle" ∧ yX5_tell.cls ≠ "java/lang/invoke/VarHandle" ∧ (parseMethodDescriptor yX5_tell.desc).map (fun d => d.parameters.length) = some 1 := by decide +kernel
/-! X5_check -/
def rmX5_check : Room := { frames := 3, cells := 0, slots := 0, locals := 69 }
def f_X5_check_L37 (N : Nat) (x1 : Int32) (st : St) (k : Int32 → Int32 → Option (Int32 × St)) : Nat → Int32 → Int32 → Option (Int32 × St)
  | 0, _, _ => none
  | n + 1, x2, x3 => if st 13 0 ≤ x3 then k x2 x3 else bd1 (f_X2_fitsBehind st x2 x3 x1) fun r_6 => if b2i r_6 = 0 then some ((-1 : Int32) - x3, st) else ck 12 x3 fun j_8 => bnd (x2 ||| ((1 : Int32) <<< ((st 11 j_8) &&& 31))) fun v_9 => f_X5_check_L37 N x1 st k n v_9 (x3 + 1)
def f_X5_check (N : Nat) (st : St) : Option (Int32 × St) := bnd (st 13 1) fun v_1 => bnd (sU st 13 1 0) fun st_2 => if st_2 13 0 = 0 then bd2 (f_X5_finding st_2 (-100006 : Int32)) fun r_16 st_17 => some (r_16, st_17) else f_X5_check_L37 N v_1 st_2 (fun a_10 a_11 => if v_1 ≤ st_2 13 0 then bd1 (f_X2_costOfWaiting N st_2) fun r_14 => some (r_14, st_2) else some (-12, st_2)) N 0 0
set_option maxHeartbeats 4000000 in
set_option maxRecDepth 100000 in
theorem wl_X5_check_L37 {p : Program} {l : Launch} {e : Env} {s : State} {m : MethodId} {args : Array Value} {below : List Frame} {meth : Method} {c : Code} {Q : State → Prop} {A : Nat → Prop} {g : GP} {Y : va_W} {ad : Nat → Nat} {r : Int32} {st' : St} (C : Cx p s m args c cX5_check 4 wsX5_check RX5 g A) (hret : RetI p l e rmX5_check s m args below meth c Q cX5_check g A (wCX g Y ad st') (r)) (N : Nat) (x1 : Int32) (st : St)  (k : Int32 → Int32 → Option (Int32 × St)) (hk : ∀ (x2 : Int32) (x3 : Int32) (H : Heap) (locs : List Loc) (ls : Array Slot), k x2 x3 = some (r, st') → IW g A s.heap (wCX g Y ad st) H locs → lv_has ls 4 [(0, .ref (ad 0)), (1, .int x1), (2, .int x2), (3, .int x3)] → W p l e rmX5_check s m args below meth c H locs 0 0 Q (F0 m 85 ls [])) : ∀ (n : Nat) (x2 : Int32) (x3 : Int32) (H : Heap) (locs : List Loc) (ls : Array Slot), f_X5_check_L37 N x1 st k n x2 x3 = some (r, st') → IW g A s.heap (wCX g Y ad st) H locs → lv_has ls 4 [(0, .ref (ad 0)), (1, .int x1), (2, .int x2), (3, .int x3)] → W p l e rmX5_check s m args below meth c H locs 0 0 Q (F0 m 37 ls []) := by
  obtain ⟨hx, hb, hml, hown, hts⟩ := id C.1
  have hinRX5 : ∀ w ∈ u_ws RX5 TX5 7, w ∈ wsX5_check := by decide +kernel
  have lk12 := hts (.fieldLink RX5 12 "GraveRows" "ground" "LGraveRows$Ground;") (by decide +kernel)
  have hinRX2 : ∀ w ∈ u_ws RX2 TX2 7, w ∈ wsX5_check := by decide +kernel
  have lk52 := hts (.fieldLink RX5 52 "GraveRows$Ground" "size" "I") (by decide +kernel)
  have lk201 := hts (.fieldLink RX5 201 "GraveRows$Ground" "waiting" "[I") (by decide +kernel)
  intro n
  induction n with
  | zero =>
    intro x2 x3 H locs ls h hI hl
    rw [f_X5_check_L37] at h
    cases h
  | succ n ih =>
    intro x2 x3 H locs ls h hI hl
    rw [f_X5_check_L37] at h
    refine lv_iload_n hx hb dX5_check_37 rfl (lv_at hl 3 rfl) ?_
    refine lv_aload_n hx hb dX5_check_38 rfl (lv_at hl 0 rfl) ?_
    refine w_get (v := .ref (ad 1)) C hinRX5 hI 0 at_C rfl 0 (by decide) lk12 rfl rfl dX5_check_39 ?_
    refine w_get (v := .int (st 13 0)) C hinRX2 hI 1 at_G0 rfl 5 (by decide) lk52 rfl rfl dX5_check_42 ?_
    refine lv_icmp_ge (tgt := 85) hx hb dX5_check_45 (by decide) (fun c_4 => ?_) (fun c_4 => ?_)
    · replace h := (if_pos c_4).symm.trans h
      exact hk _ _ _ _ _ h hI (lv_sub hl [0, 1, 2, 3] rfl)
    · replace h := (if_neg c_4).symm.trans h
      refine lv_aload_n hx hb dX5_check_48 rfl (lv_at hl 0 rfl) ?_
      refine w_get (v := .ref (ad 1)) C hinRX5 hI 0 at_C rfl 0 (by decide) lk12 rfl rfl dX5_check_49 ?_
      refine lv_iload_n hx hb dX5_check_52 rfl (lv_at hl 2 rfl) ?_
      refine lv_iload_n hx hb dX5_check_53 rfl (lv_at hl 3 rfl) ?_
      refine lv_iload_n hx hb dX5_check_54 rfl (lv_at hl 1 rfl) ?_
      obtain ⟨r_6, hr_5, h⟩ := bd1_some h
      refine callV_I (rest := []) C hI (c_X2_fitsBehind l g Y ad x2 x3 x1 st hr_5) (cwV 3 hts gX5_check_X2_fitsBehind rfl rfl rfl hv_X2_fitsBehind ⟨Nat.le_of_ble_eq_true rfl, Nat.le_of_ble_eq_true rfl⟩) (w_recv C hI 1 at_G0 rfl) rfl hl.1 rfl (Nat.le_of_ble_eq_true rfl) dX5_check_55 (fun H locs hI => ?_)
      refine lv_if_ne (tgt := 65) hx hb dX5_check_58 (by decide) (fun c_7 => ?_) (fun c_7 => ?_)
      · replace h := (if_neg c_7).symm.trans h
        refine lv_iload_n hx hb dX5_check_65 rfl (lv_at hl 2 rfl) ?_
        refine lv_iconst (v := 1) hx hb dX5_check_66 (by decide) ?_
        refine lv_aload_n hx hb dX5_check_67 rfl (lv_at hl 0 rfl) ?_
        refine w_get (v := .ref (ad 1)) C hinRX5 hI 0 at_C rfl 0 (by decide) lk12 rfl rfl dX5_check_68 ?_
        refine w_get (v := .ref (ad 5)) C hinRX2 hI 1 at_G0 rfl 3 (by decide) lk201 rfl rfl dX5_check_71 ?_
        refine lv_iload_n hx hb dX5_check_74 rfl (lv_at hl 3 rfl) ?_
        refine w_ld C hI 5 ar_5 h dX5_check_75 (fun j_8 hj_8 h => ?_)
        refine lv_ishl hx hb dX5_check_76 ?_
        refine lv_ior hx hb dX5_check_77 ?_
        refine gen_i h (fun v_9 h => ?_)
        refine lv_istore_n (lv' := [(2, .int v_9), (0, .ref (ad 0)), (1, .int x1), (3, .int x3)]) hx hb dX5_check_78 rfl hl (by decide) rfl (fun ls hl => ?_)
        refine lv_iinc (v := x3 + 1) (lv' := [(3, .int (x3 + 1)), (2, .int v_9), (0, .ref (ad 0)), (1, .int x1)]) hx hb dX5_check_79 hl (k := 3) rfl rfl (by decide) rfl (fun ls hl => ?_)
        refine lv_goto (tgt := 37) hx hb dX5_check_82 (by decide) ?_
        exact ih _ _ _ _ _ h hI (lv_sub hl [2, 3, 1, 0] rfl)
      · replace h := (if_pos c_7).symm.trans h
        refine lv_iconst (v := (-1)) hx hb dX5_check_61 (by decide) ?_
        refine lv_iload_n hx hb dX5_check_62 rfl (lv_at hl 3 rfl) ?_
        refine lv_isub hx hb dX5_check_63 ?_
        obtain ⟨rfl, rfl⟩ := ret2 h
        exact hret H locs _ ls hI dX5_check_64
set_option maxHeartbeats 4000000 in
set_option maxRecDepth 100000 in
theorem c_X5_check (l : Launch) (g : GP) (Y : va_W) (ad : Nat → Nat) (N : Nat)  (st : St) {r : Int32} {st' : St} (h : f_X5_check N st = some (r, st')) : MetI l yX5_check wsX5_check rmX5_check g (wCX g Y ad) [.ref (ad 0)] st (r) st' := by
  refine metI_of (cc := cX5_check) (nL := 4) (ty := .int) (by decide) rfl (Nat.le_of_ble_eq_true rfl) rfl ?_
  intro p e s m below meth c Q A C hret H locs hI ls hl
  have C : Cx p s m _ c cX5_check 4 wsX5_check RX5 g A := C
  obtain ⟨hx, hb, hml, hown, hts⟩ := id C.1
  have hl : lv_has ls 4 [(0, .ref (ad 0))] := hl
  have hinRX5 : ∀ w ∈ u_ws RX5 TX5 7, w ∈ wsX5_check := by decide +kernel
  have lk12 := hts (.fieldLink RX5 12 "GraveRows" "ground" "LGraveRows$Ground;") (by decide +kernel)
  have hinRX2 : ∀ w ∈ u_ws RX2 TX2 7, w ∈ wsX5_check := by decide +kernel
  have lk198 := hts (.fieldLink RX5 198 "GraveRows$Ground" "waits" "I") (by decide +kernel)
  have lk52 := hts (.fieldLink RX5 52 "GraveRows$Ground" "size" "I") (by decide +kernel)
  have lc125 := hts (.constant RX5 125 (-100006)) (by decide +kernel)
  rw [f_X5_check] at h
  refine lv_aload_n hx hb dX5_check_0 rfl (lv_at hl 0 rfl) ?_
  refine w_get (v := .ref (ad 1)) C hinRX5 hI 0 at_C rfl 0 (by decide) lk12 rfl rfl dX5_check_1 ?_
  refine w_get (v := .int (st 13 1)) C hinRX2 hI 1 at_G0 rfl 6 (by decide) lk198 rfl rfl dX5_check_4 ?_
  refine gen_i h (fun v_1 h => ?_)
  refine lv_istore_n (lv' := [(1, .int v_1), (0, .ref (ad 0))]) hx hb dX5_check_7 rfl hl (by decide) rfl (fun ls hl => ?_)
  refine lv_aload_n hx hb dX5_check_8 rfl (lv_at hl 1 rfl) ?_
  refine w_get (v := .ref (ad 1)) C hinRX5 hI 0 at_C rfl 0 (by decide) lk12 rfl rfl dX5_check_9 ?_
  refine lv_iconst (v := 0) hx hb dX5_check_12 (by decide) ?_
  refine w_put C hinRX2 tyX2 tyX2_ok nmX2 hI 1 at_G0 rfl 6 h st_G0_waits (by decide) (Nat.le_of_ble_eq_true rfl) lk198 ⟨rfl, rfl⟩ rfl rfl dX5_check_13 (fun st_2 H locs h hI => ?_)
  refine lv_aload_n hx hb dX5_check_16 rfl (lv_at hl 1 rfl) ?_
  refine w_get (v := .ref (ad 1)) C hinRX5 hI 0 at_C rfl 0 (by decide) lk12 rfl rfl dX5_check_17 ?_
  refine w_get (v := .int (st_2 13 0)) C hinRX2 hI 1 at_G0 rfl 5 (by decide) lk52 rfl rfl dX5_check_20 ?_
  refine lv_if_ne (tgt := 33) hx hb dX5_check_23 (by decide) (fun c_3 => ?_) (fun c_3 => ?_)
  · replace h := (if_neg c_3).symm.trans h
    refine lv_iconst (v := 0) hx hb dX5_check_33 (by decide) ?_
    refine lv_istore_n (lv' := [(2, .int 0), (1, .int v_1), (0, .ref (ad 0))]) hx hb dX5_check_34 rfl hl (by decide) rfl (fun ls hl => ?_)
    refine lv_iconst (v := 0) hx hb dX5_check_35 (by decide) ?_
    refine lv_istore_n (lv' := [(3, .int 0), (2, .int 0), (1, .int v_1), (0, .ref (ad 0))]) hx hb dX5_check_36 rfl hl (by decide) rfl (fun ls hl => ?_)
    refine wl_X5_check_L37 C hret N v_1 st_2 _ (fun a_10 a_11 H locs ls h hI hl => ?_) N 0 0 H locs ls h hI (lv_sub hl [3, 2, 1, 0] rfl)
    refine lv_iload_n hx hb dX5_check_85 rfl (lv_at hl 1 rfl) ?_
    refine lv_aload_n hx hb dX5_check_86 rfl (lv_at hl 0 rfl) ?_
    refine w_get (v := .ref (ad 1)) C hinRX5 hI 0 at_C rfl 0 (by decide) lk12 rfl rfl dX5_check_87 ?_
    refine w_get (v := .int (st_2 13 0)) C hinRX2 hI 1 at_G0 rfl 5 (by decide) lk52 rfl rfl dX5_check_90 ?_
    refine lv_icmp_le (tgt := 99) hx hb dX5_check_93 (by decide) (fun c_12 => ?_) (fun c_12 => ?_)
    · replace h := (if_pos c_12).symm.trans h
      refine lv_aload_n hx hb dX5_check_99 rfl (lv_at hl 0 rfl) ?_
      refine w_get (v := .ref (ad 1)) C hinRX5 hI 0 at_C rfl 0 (by decide) lk12 rfl rfl dX5_check_100 ?_
      obtain ⟨r_14, hr_13, h⟩ := bd1_some h
      refine callV_I (rest := []) C hI (c_X2_costOfWaiting l g Y ad N st_2 hr_13) (cwV 0 hts gX5_check_X2_costOfWaiting rfl rfl rfl hv_X2_costOfWaiting ⟨Nat.le_of_ble_eq_true rfl, Nat.le_of_ble_eq_true rfl⟩) (w_recv C hI 1 at_G0 rfl) rfl hl.1 rfl (Nat.le_of_ble_eq_true rfl) dX5_check_103 (fun H locs hI => ?_)
      obtain ⟨rfl, rfl⟩ := ret2 h
      exact hret H locs _ ls hI dX5_check_106
    · replace h := (if_neg c_12).symm.trans h
      refine lv_bipush (v := (-12)) hx hb dX5_check_96 (by decide) ?_
      obtain ⟨rfl, rfl⟩ := ret2 h
      exact hret H locs _ ls hI dX5_check_98
  · replace h := (if_pos c_3).symm.trans h
    refine lv_aload_n hx hb dX5_check_26 rfl (lv_at hl 1 rfl) ?_
    refine lv_ldc (v := (-100006)) hx hb hown lc125 dX5_check_27 ?_
    obtain ⟨r_16, st_17, hr_15, h⟩ := bd2_some h
    refine callV_I (rest := []) C hI (c_X5_finding l g Y ad (-100006 : Int32) st_2 hr_15) (cwV 1 hts gX5_check_X5_finding rfl rfl rfl hv_X5_finding ⟨Nat.le_of_ble_eq_true rfl, Nat.le_of_ble_eq_true rfl⟩) (w_recv C hI 0 at_C rfl) rfl hl.1 rfl (Nat.le_of_ble_eq_true rfl) dX5_check_29 (fun H locs hI => ?_)
    obtain ⟨rfl, rfl⟩ := ret2 h
    exact hret H locs _ ls hI dX5_check_32
theorem hv_X5_check : yX5_check.cls = RX5 ∧ yX5_check.cls ≠ "java/lang/invoke/MethodHandle" ∧ yX5_check.cls ≠ "java/lang/invoke/VarHandle" ∧ (parseMethodDescriptor yX5_check.desc).map (fun d => d.parameters.length) = some 0 := by decide +kernel
/-! X5_without -/
def rmX5_without : Room := { frames := 4, cells := 0, slots := 0, locals := 92 }
def f_X5_without (N : Nat) (st : St) (x1 : Int32) : Option (Int32 × St) := bnd (f_X5_isGood x1) fun r_1 => if b2i r_1 = 0 then bd2 (f_X5_finding st (-100001 : Int32)) fun r_12 st_13 => some (r_12, st_13) else bnd (f_X5_orderHindrance st) fun r_3 => if r_3 = 0 then bd1 (f_X3_solve N st ((4095 : Int32) &&& (((1 : Int32) <<< (x1 &&& 31)) ^^^ (-1 : Int32)))) fun st_6 => bnd (f_X3_leastCost st_6) fun r_7 => some (r_7, st_6) else bd2 (f_X5_finding st r_3) fun r_9 st_10 => some (r_9, st_10)
set_option maxHeartbeats 4000000 in
set_option maxRecDepth 100000 in
theorem c_X5_without (l : Launch) (g : GP) (Y : va_W) (ad : Nat → Nat) (N : Nat) (x1 : Int32)  (st : St) {r : Int32} {st' : St} (h : f_X5_without N st x1 = some (r, st')) : MetI l yX5_without wsX5_without rmX5_without g (wCX g Y ad) [.ref (ad 0), .int x1] st (r) st' := by
  refine metI_of (cc := cX5_without) (nL := 3) (ty := .int) (by decide) rfl (Nat.le_of_ble_eq_true rfl) rfl ?_
  intro p e s m below meth c Q A C hret H locs hI ls hl
  have C : Cx p s m _ c cX5_without 3 wsX5_without RX5 g A := C
  obtain ⟨hx, hb, hml, hown, hts⟩ := id C.1
  have hl : lv_has ls 3 [(0, .ref (ad 0)), (1, .int x1)] := hl
  have hinRX5 : ∀ w ∈ u_ws RX5 TX5 7, w ∈ wsX5_without := by decide +kernel
  have lk29 := hts (.fieldLink RX5 29 "GraveRows" "search" "LGraveRows$RowSearch;") (by decide +kernel)
  have lk12 := hts (.fieldLink RX5 12 "GraveRows" "ground" "LGraveRows$Ground;") (by decide +kernel)
  have lc47 := hts (.constant RX5 47 (-100001)) (by decide +kernel)
  rw [f_X5_without] at h
  refine lv_iload_n hx hb dX5_without_0 rfl (lv_at hl 1 rfl) ?_
  refine callS_S (rest := []) C.1 (c_X5_isGood l x1) (va_cwS 1 hts gX5_without_X5_isGood rfl rfl rfl hd_X5_isGood ⟨Nat.le_of_ble_eq_true rfl, Nat.le_of_ble_eq_true rfl⟩) rfl hl.1 rfl (Nat.le_of_ble_eq_true rfl) dX5_without_1 ?_
  refine gen_b h (fun r_1 h => ?_)
  refine lv_if_ne (tgt := 14) hx hb dX5_without_4 (by decide) (fun c_2 => ?_) (fun c_2 => ?_)
  · replace h := (if_neg c_2).symm.trans h
    refine lv_aload_n hx hb dX5_without_14 rfl (lv_at hl 0 rfl) ?_
    refine callV_I (rest := []) C hI (c_X5_orderHindrance l g Y ad st) (cwV 0 hts gX5_without_X5_orderHindrance rfl rfl rfl hv_X5_orderHindrance ⟨Nat.le_of_ble_eq_true rfl, Nat.le_of_ble_eq_true rfl⟩) (w_recv C hI 0 at_C rfl) rfl hl.1 rfl (Nat.le_of_ble_eq_true rfl) dX5_without_15 (fun H locs hI => ?_)
    refine gen_i h (fun r_3 h => ?_)
    refine lv_istore_n (lv' := [(2, .int r_3), (0, .ref (ad 0)), (1, .int x1)]) hx hb dX5_without_18 rfl hl (by decide) rfl (fun ls hl => ?_)
    refine lv_iload_n hx hb dX5_without_19 rfl (lv_at hl 0 rfl) ?_
    refine lv_if_eq (tgt := 29) hx hb dX5_without_20 (by decide) (fun c_4 => ?_) (fun c_4 => ?_)
    · replace h := (if_pos c_4).symm.trans h
      refine lv_aload_n hx hb dX5_without_29 rfl (lv_at hl 1 rfl) ?_
      refine w_get (v := .ref (ad 42)) C hinRX5 hI 0 at_C rfl 3 (by decide) lk29 rfl rfl dX5_without_30 ?_
      refine lv_aload_n hx hb dX5_without_33 rfl (lv_at hl 1 rfl) ?_
      refine w_get (v := .ref (ad 1)) C hinRX5 hI 0 at_C rfl 0 (by decide) lk12 rfl rfl dX5_without_34 ?_
      refine lv_sipush (v := 4095) hx hb dX5_without_37 (by decide) ?_
      refine lv_iconst (v := 1) hx hb dX5_without_40 (by decide) ?_
      refine lv_iload_n hx hb dX5_without_41 rfl (lv_at hl 2 rfl) ?_
      refine lv_ishl hx hb dX5_without_42 ?_
      refine lv_iconst (v := (-1)) hx hb dX5_without_43 (by decide) ?_
      refine lv_ixor hx hb dX5_without_44 ?_
      refine lv_iand hx hb dX5_without_45 ?_
      obtain ⟨st_6, hr_5, h⟩ := bd1_some h
      refine callV_V (rest := []) C hI (c_X3_solve l g Y ad N ((4095 : Int32) &&& (((1 : Int32) <<< (x1 &&& 31)) ^^^ (-1 : Int32))) st hr_5) (cwV 2 hts gX5_without_X3_solve rfl rfl rfl hv_X3_solve ⟨Nat.le_of_ble_eq_true rfl, Nat.le_of_ble_eq_true rfl⟩) (w_recv C hI 42 at_R rfl) rfl hl.1 rfl (Nat.le_of_ble_eq_true rfl) dX5_without_46 (fun H locs hI => ?_)
      refine lv_aload_n hx hb dX5_without_49 rfl (lv_at hl 1 rfl) ?_
      refine w_get (v := .ref (ad 42)) C hinRX5 hI 0 at_C rfl 3 (by decide) lk29 rfl rfl dX5_without_50 ?_
      refine callV_I (rest := []) C hI (c_X3_leastCost l g Y ad st_6) (cwV 0 hts gX5_without_X3_leastCost rfl rfl rfl hv_X3_leastCost ⟨Nat.le_of_ble_eq_true rfl, Nat.le_of_ble_eq_true rfl⟩) (w_recv C hI 42 at_R rfl) rfl hl.1 rfl (Nat.le_of_ble_eq_true rfl) dX5_without_53 (fun H locs hI => ?_)
      refine gen_i h (fun r_7 h => ?_)
      obtain ⟨rfl, rfl⟩ := ret2 h
      exact hret H locs _ ls hI dX5_without_56
    · replace h := (if_neg c_4).symm.trans h
      refine lv_aload_n hx hb dX5_without_23 rfl (lv_at hl 1 rfl) ?_
      refine lv_iload_n hx hb dX5_without_24 rfl (lv_at hl 0 rfl) ?_
      obtain ⟨r_9, st_10, hr_8, h⟩ := bd2_some h
      refine callV_I (rest := []) C hI (c_X5_finding l g Y ad r_3 st hr_8) (cwV 1 hts gX5_without_X5_finding rfl rfl rfl hv_X5_finding ⟨Nat.le_of_ble_eq_true rfl, Nat.le_of_ble_eq_true rfl⟩) (w_recv C hI 0 at_C rfl) rfl hl.1 rfl (Nat.le_of_ble_eq_true rfl) dX5_without_25 (fun H locs hI => ?_)
      obtain ⟨rfl, rfl⟩ := ret2 h
      exact hret H locs _ ls hI dX5_without_28
  · replace h := (if_pos c_2).symm.trans h
    refine lv_aload_n hx hb dX5_without_7 rfl (lv_at hl 0 rfl) ?_
    refine lv_ldc (v := (-100001)) hx hb hown lc47 dX5_without_8 ?_
    obtain ⟨r_12, st_13, hr_11, h⟩ := bd2_some h
    refine callV_I (rest := []) C hI (c_X5_finding l g Y ad (-100001 : Int32) st hr_11) (cwV 1 hts gX5_without_X5_finding rfl rfl rfl hv_X5_finding ⟨Nat.le_of_ble_eq_true rfl, Nat.le_of_ble_eq_true rfl⟩) (w_recv C hI 0 at_C rfl) rfl hl.1 rfl (Nat.le_of_ble_eq_true rfl) dX5_without_10 (fun H locs hI => ?_)
    obtain ⟨rfl, rfl⟩ := ret2 h
    exact hret H locs _ ls hI dX5_without_13
theorem hv_X5_without : yX5_without.cls = RX5 ∧ yX5_without.cls ≠ "java/lang/invoke/MethodHandle" ∧ yX5_without.cls ≠ "java/lang/invoke/VarHandle" ∧ (parseMethodDescriptor yX5_without.desc).map (fun d => d.parameters.length) = some 1 := by decide +kernel
/-! X5_ways -/
def rmX5_ways : Room := { frames := 4, cells := 0, slots := 0, locals := 92 }
def f_X5_ways (N : Nat) (st : St) : Option (Int32 × St) := bnd (f_X5_orderHindrance st) fun r_1 => if r_1 = 0 then bd1 (f_X3_solve N st 4095) fun st_4 => bnd (f_X3_leastWays st_4) fun r_5 => some (r_5, st_4) else bd2 (f_X5_finding st r_1) fun r_7 st_8 => some (r_7, st_8)
set_option maxHeartbeats 4000000 in
set_option maxRecDepth 100000 in
theorem c_X5_ways (l : Launch) (g : GP) (Y : va_W) (ad : Nat → Nat) (N : Nat)  (st : St) {r : Int32} {st' : St} (h : f_X5_ways N st = some (r, st')) : MetI l yX5_ways wsX5_ways rmX5_ways g (wCX g Y ad) [.ref (ad 0)] st (r) st' := by
  refine metI_of (cc := cX5_ways) (nL := 2) (ty := .int) (by decide) rfl (Nat.le_of_ble_eq_true rfl) rfl ?_
  intro p e s m below meth c Q A C hret H locs hI ls hl
  have C : Cx p s m _ c cX5_ways 2 wsX5_ways RX5 g A := C
  obtain ⟨hx, hb, hml, hown, hts⟩ := id C.1
  have hl : lv_has ls 2 [(0, .ref (ad 0))] := hl
  have hinRX5 : ∀ w ∈ u_ws RX5 TX5 7, w ∈ wsX5_ways := by decide +kernel
  have lk29 := hts (.fieldLink RX5 29 "GraveRows" "search" "LGraveRows$RowSearch;") (by decide +kernel)
  have lk12 := hts (.fieldLink RX5 12 "GraveRows" "ground" "LGraveRows$Ground;") (by decide +kernel)
  rw [f_X5_ways] at h
  refine lv_aload_n hx hb dX5_ways_0 rfl (lv_at hl 0 rfl) ?_
  refine callV_I (rest := []) C hI (c_X5_orderHindrance l g Y ad st) (cwV 0 hts gX5_ways_X5_orderHindrance rfl rfl rfl hv_X5_orderHindrance ⟨Nat.le_of_ble_eq_true rfl, Nat.le_of_ble_eq_true rfl⟩) (w_recv C hI 0 at_C rfl) rfl hl.1 rfl (Nat.le_of_ble_eq_true rfl) dX5_ways_1 (fun H locs hI => ?_)
  refine gen_i h (fun r_1 h => ?_)
  refine lv_istore_n (lv' := [(1, .int r_1), (0, .ref (ad 0))]) hx hb dX5_ways_4 rfl hl (by decide) rfl (fun ls hl => ?_)
  refine lv_iload_n hx hb dX5_ways_5 rfl (lv_at hl 0 rfl) ?_
  refine lv_if_eq (tgt := 15) hx hb dX5_ways_6 (by decide) (fun c_2 => ?_) (fun c_2 => ?_)
  · replace h := (if_pos c_2).symm.trans h
    refine lv_aload_n hx hb dX5_ways_15 rfl (lv_at hl 1 rfl) ?_
    refine w_get (v := .ref (ad 42)) C hinRX5 hI 0 at_C rfl 3 (by decide) lk29 rfl rfl dX5_ways_16 ?_
    refine lv_aload_n hx hb dX5_ways_19 rfl (lv_at hl 1 rfl) ?_
    refine w_get (v := .ref (ad 1)) C hinRX5 hI 0 at_C rfl 0 (by decide) lk12 rfl rfl dX5_ways_20 ?_
    refine lv_sipush (v := 4095) hx hb dX5_ways_23 (by decide) ?_
    obtain ⟨st_4, hr_3, h⟩ := bd1_some h
    refine callV_V (rest := []) C hI (c_X3_solve l g Y ad N 4095 st hr_3) (cwV 2 hts gX5_ways_X3_solve rfl rfl rfl hv_X3_solve ⟨Nat.le_of_ble_eq_true rfl, Nat.le_of_ble_eq_true rfl⟩) (w_recv C hI 42 at_R rfl) rfl hl.1 rfl (Nat.le_of_ble_eq_true rfl) dX5_ways_26 (fun H locs hI => ?_)
    refine lv_aload_n hx hb dX5_ways_29 rfl (lv_at hl 1 rfl) ?_
    refine w_get (v := .ref (ad 42)) C hinRX5 hI 0 at_C rfl 3 (by decide) lk29 rfl rfl dX5_ways_30 ?_
    refine callV_I (rest := []) C hI (c_X3_leastWays l g Y ad st_4) (cwV 0 hts gX5_ways_X3_leastWays rfl rfl rfl hv_X3_leastWays ⟨Nat.le_of_ble_eq_true rfl, Nat.le_of_ble_eq_true rfl⟩) (w_recv C hI 42 at_R rfl) rfl hl.1 rfl (Nat.le_of_ble_eq_true rfl) dX5_ways_33 (fun H locs hI => ?_)
    refine gen_i h (fun r_5 h => ?_)
    obtain ⟨rfl, rfl⟩ := ret2 h
    exact hret H locs _ ls hI dX5_ways_36
  · replace h := (if_neg c_2).symm.trans h
    refine lv_aload_n hx hb dX5_ways_9 rfl (lv_at hl 1 rfl) ?_
    refine lv_iload_n hx hb dX5_ways_10 rfl (lv_at hl 0 rfl) ?_
    obtain ⟨r_7, st_8, hr_6, h⟩ := bd2_some h
    refine callV_I (rest := []) C hI (c_X5_finding l g Y ad r_1 st hr_6) (cwV 1 hts gX5_ways_X5_finding rfl rfl rfl hv_X5_finding ⟨Nat.le_of_ble_eq_true rfl, Nat.le_of_ble_eq_true rfl⟩) (w_recv C hI 0 at_C rfl) rfl hl.1 rfl (Nat.le_of_ble_eq_true rfl) dX5_ways_11 (fun H locs hI => ?_)
    obtain ⟨rfl, rfl⟩ := ret2 h
    exact hret H locs _ ls hI dX5_ways_14
theorem hv_X5_ways : yX5_ways.cls = RX5 ∧ yX5_ways.cls ≠ "java/lang/invoke/MethodHandle" ∧ yX5_ways.cls ≠ "java/lang/invoke/VarHandle" ∧ (parseMethodDescriptor yX5_ways.desc).map (fun d => d.parameters.length) = some 0 := by decide +kernel
/-! X5_stretchHindrance -/
def rmX5_stretchHindrance : Room := { frames := 1, cells := 0, slots := 0, locals := 20 }
def f_X5_stretchHindrance (st : St) (x1 : Int32) : Int32 := bnd (f_X5_orderHindrance st) fun r_1 => if r_1 = 0 then if x1 < 1 then -100001 else if x1 ≤ st 13 0 then 0 else -100001 else r_1
set_option maxHeartbeats 4000000 in
set_option maxRecDepth 100000 in
theorem c_X5_stretchHindrance (l : Launch) (g : GP) (Y : va_W) (ad : Nat → Nat) (x1 : Int32)  (st : St) : MetI l yX5_stretchHindrance wsX5_stretchHindrance rmX5_stretchHindrance g (wCX g Y ad) [.ref (ad 0), .int x1] st (f_X5_stretchHindrance st x1) st := by
  refine metI_of (cc := cX5_stretchHindrance) (nL := 3) (ty := .int) (by decide) rfl (Nat.le_of_ble_eq_true rfl) rfl ?_
  intro p e s m below meth c Q A C hret H locs hI ls hl
  have C : Cx p s m _ c cX5_stretchHindrance 3 wsX5_stretchHindrance RX5 g A := C
  obtain ⟨hx, hb, hml, hown, hts⟩ := id C.1
  have hl : lv_has ls 3 [(0, .ref (ad 0)), (1, .int x1)] := hl
  have lc47 := hts (.constant RX5 47 (-100001)) (by decide +kernel)
  have hinRX5 : ∀ w ∈ u_ws RX5 TX5 7, w ∈ wsX5_stretchHindrance := by decide +kernel
  have lk12 := hts (.fieldLink RX5 12 "GraveRows" "ground" "LGraveRows$Ground;") (by decide +kernel)
  have hinRX2 : ∀ w ∈ u_ws RX2 TX2 7, w ∈ wsX5_stretchHindrance := by decide +kernel
  have lk52 := hts (.fieldLink RX5 52 "GraveRows$Ground" "size" "I") (by decide +kernel)
  generalize hgen : f_X5_stretchHindrance st x1 = r at hret
  have h := hgen
  rw [f_X5_stretchHindrance] at h
  refine lv_aload_n hx hb dX5_stretchHindrance_0 rfl (lv_at hl 0 rfl) ?_
  refine callV_I (rest := []) C hI (c_X5_orderHindrance l g Y ad st) (cwV 0 hts gX5_stretchHindrance_X5_orderHindrance rfl rfl rfl hv_X5_orderHindrance ⟨Nat.le_of_ble_eq_true rfl, Nat.le_of_ble_eq_true rfl⟩) (w_recv C hI 0 at_C rfl) rfl hl.1 rfl (Nat.le_of_ble_eq_true rfl) dX5_stretchHindrance_1 (fun H locs hI => ?_)
  refine gen_i h (fun r_1 h => ?_)
  refine lv_istore_n (lv' := [(2, .int r_1), (0, .ref (ad 0)), (1, .int x1)]) hx hb dX5_stretchHindrance_4 rfl hl (by decide) rfl (fun ls hl => ?_)
  refine lv_iload_n hx hb dX5_stretchHindrance_5 rfl (lv_at hl 0 rfl) ?_
  refine lv_if_eq (tgt := 11) hx hb dX5_stretchHindrance_6 (by decide) (fun c_2 => ?_) (fun c_2 => ?_)
  · replace h := (if_pos c_2).symm.trans h
    refine lv_iload_n hx hb dX5_stretchHindrance_11 rfl (lv_at hl 2 rfl) ?_
    refine lv_iconst (v := 1) hx hb dX5_stretchHindrance_12 (by decide) ?_
    refine lv_icmp_lt (tgt := 27) hx hb dX5_stretchHindrance_13 (by decide) (fun c_3 => ?_) (fun c_3 => ?_)
    · replace h := (if_pos c_3).symm.trans h
      refine lv_ldc (v := (-100001)) hx hb hown lc47 dX5_stretchHindrance_27 ?_
      refine lv_goto (tgt := 33) hx hb dX5_stretchHindrance_29 (by decide) ?_
      subst h
      exact hret H locs _ ls hI dX5_stretchHindrance_33
    · replace h := (if_neg c_3).symm.trans h
      refine lv_iload_n hx hb dX5_stretchHindrance_16 rfl (lv_at hl 2 rfl) ?_
      refine lv_aload_n hx hb dX5_stretchHindrance_17 rfl (lv_at hl 1 rfl) ?_
      refine w_get (v := .ref (ad 1)) C hinRX5 hI 0 at_C rfl 0 (by decide) lk12 rfl rfl dX5_stretchHindrance_18 ?_
      refine w_get (v := .int (st 13 0)) C hinRX2 hI 1 at_G0 rfl 5 (by decide) lk52 rfl rfl dX5_stretchHindrance_21 ?_
      refine lv_icmp_le (tgt := 32) hx hb dX5_stretchHindrance_24 (by decide) (fun c_4 => ?_) (fun c_4 => ?_)
      · replace h := (if_pos c_4).symm.trans h
        refine lv_iconst (v := 0) hx hb dX5_stretchHindrance_32 (by decide) ?_
        subst h
        exact hret H locs _ ls hI dX5_stretchHindrance_33
      · replace h := (if_neg c_4).symm.trans h
        refine lv_ldc (v := (-100001)) hx hb hown lc47 dX5_stretchHindrance_27 ?_
        refine lv_goto (tgt := 33) hx hb dX5_stretchHindrance_29 (by decide) ?_
        subst h
        exact hret H locs _ ls hI dX5_stretchHindrance_33
  · replace h := (if_neg c_2).symm.trans h
    refine lv_iload_n hx hb dX5_stretchHindrance_9 rfl (lv_at hl 0 rfl) ?_
    subst h
    exact hret H locs _ ls hI dX5_stretchHindrance_10
theorem hv_X5_stretchHindrance : yX5_stretchHindrance.cls = RX5 ∧ yX5_stretchHindrance.cls ≠ "java/lang/invoke/MethodHandle" ∧ yX5_stretchHindrance.cls ≠ "java/lang/invoke/VarHandle" ∧ (parseMethodDescriptor yX5_stretchHindrance.desc).map (fun d => d.parameters.length) = some 1 := by decide +kernel
/-! X5_stretches -/
def rmX5_stretches : Room := { frames := 4, cells := 0, slots := 0, locals := 92 }
def f_X5_stretches (N : Nat) (st : St) (x1 : Int32) : Option (Int32 × St) := bnd (f_X5_stretchHindrance st x1) fun r_1 => if r_1 = 0 then bd1 (f_X3_solve N st 4095) fun st_4 => bd1 (f_X0_choose N st_4 x1) fun st_6 => some (st_6 50 1, st_6) else bd2 (f_X5_finding st r_1) fun r_8 st_9 => some (r_8, st_9)
set_option maxHeartbeats 4000000 in
set_option maxRecDepth 100000 in
theorem c_X5_stretches (l : Launch) (g : GP) (Y : va_W) (ad : Nat → Nat) (N : Nat) (x1 : Int32)  (st : St) {r : Int32} {st' : St} (h : f_X5_stretches N st x1 = some (r, st')) : MetI l yX5_stretches wsX5_stretches rmX5_stretches g (wCX g Y ad) [.ref (ad 0), .int x1] st (r) st' := by
  refine metI_of (cc := cX5_stretches) (nL := 3) (ty := .int) (by decide) rfl (Nat.le_of_ble_eq_true rfl) rfl ?_
  intro p e s m below meth c Q A C hret H locs hI ls hl
  have C : Cx p s m _ c cX5_stretches 3 wsX5_stretches RX5 g A := C
  obtain ⟨hx, hb, hml, hown, hts⟩ := id C.1
  have hl : lv_has ls 3 [(0, .ref (ad 0)), (1, .int x1)] := hl
  have hinRX5 : ∀ w ∈ u_ws RX5 TX5 7, w ∈ wsX5_stretches := by decide +kernel
  have lk29 := hts (.fieldLink RX5 29 "GraveRows" "search" "LGraveRows$RowSearch;") (by decide +kernel)
  have lk12 := hts (.fieldLink RX5 12 "GraveRows" "ground" "LGraveRows$Ground;") (by decide +kernel)
  have lk36 := hts (.fieldLink RX5 36 "GraveRows" "borders" "LGraveRows$Borders;") (by decide +kernel)
  have hinRX0 : ∀ w ∈ u_ws RX0 TX0 4, w ∈ wsX5_stretches := by decide +kernel
  have lk221 := hts (.fieldLink RX5 221 "GraveRows$Borders" "total" "I") (by decide +kernel)
  rw [f_X5_stretches] at h
  refine lv_aload_n hx hb dX5_stretches_0 rfl (lv_at hl 0 rfl) ?_
  refine lv_iload_n hx hb dX5_stretches_1 rfl (lv_at hl 1 rfl) ?_
  refine callV_I (rest := []) C hI (c_X5_stretchHindrance l g Y ad x1 st) (cwV 1 hts gX5_stretches_X5_stretchHindrance rfl rfl rfl hv_X5_stretchHindrance ⟨Nat.le_of_ble_eq_true rfl, Nat.le_of_ble_eq_true rfl⟩) (w_recv C hI 0 at_C rfl) rfl hl.1 rfl (Nat.le_of_ble_eq_true rfl) dX5_stretches_2 (fun H locs hI => ?_)
  refine gen_i h (fun r_1 h => ?_)
  refine lv_istore_n (lv' := [(2, .int r_1), (0, .ref (ad 0)), (1, .int x1)]) hx hb dX5_stretches_5 rfl hl (by decide) rfl (fun ls hl => ?_)
  refine lv_iload_n hx hb dX5_stretches_6 rfl (lv_at hl 0 rfl) ?_
  refine lv_if_eq (tgt := 16) hx hb dX5_stretches_7 (by decide) (fun c_2 => ?_) (fun c_2 => ?_)
  · replace h := (if_pos c_2).symm.trans h
    refine lv_aload_n hx hb dX5_stretches_16 rfl (lv_at hl 1 rfl) ?_
    refine w_get (v := .ref (ad 42)) C hinRX5 hI 0 at_C rfl 3 (by decide) lk29 rfl rfl dX5_stretches_17 ?_
    refine lv_aload_n hx hb dX5_stretches_20 rfl (lv_at hl 1 rfl) ?_
    refine w_get (v := .ref (ad 1)) C hinRX5 hI 0 at_C rfl 0 (by decide) lk12 rfl rfl dX5_stretches_21 ?_
    refine lv_sipush (v := 4095) hx hb dX5_stretches_24 (by decide) ?_
    obtain ⟨st_4, hr_3, h⟩ := bd1_some h
    refine callV_V (rest := []) C hI (c_X3_solve l g Y ad N 4095 st hr_3) (cwV 2 hts gX5_stretches_X3_solve rfl rfl rfl hv_X3_solve ⟨Nat.le_of_ble_eq_true rfl, Nat.le_of_ble_eq_true rfl⟩) (w_recv C hI 42 at_R rfl) rfl hl.1 rfl (Nat.le_of_ble_eq_true rfl) dX5_stretches_27 (fun H locs hI => ?_)
    refine lv_aload_n hx hb dX5_stretches_30 rfl (lv_at hl 1 rfl) ?_
    refine w_get (v := .ref (ad 50)) C hinRX5 hI 0 at_C rfl 4 (by decide) lk36 rfl rfl dX5_stretches_31 ?_
    refine lv_aload_n hx hb dX5_stretches_34 rfl (lv_at hl 1 rfl) ?_
    refine w_get (v := .ref (ad 42)) C hinRX5 hI 0 at_C rfl 3 (by decide) lk29 rfl rfl dX5_stretches_35 ?_
    refine lv_iload_n hx hb dX5_stretches_38 rfl (lv_at hl 2 rfl) ?_
    obtain ⟨st_6, hr_5, h⟩ := bd1_some h
    refine callV_V (rest := []) C hI (c_X0_choose l g Y ad N x1 st_4 hr_5) (cwV 2 hts gX5_stretches_X0_choose rfl rfl rfl hv_X0_choose ⟨Nat.le_of_ble_eq_true rfl, Nat.le_of_ble_eq_true rfl⟩) (w_recv C hI 50 at_B rfl) rfl hl.1 rfl (Nat.le_of_ble_eq_true rfl) dX5_stretches_39 (fun H locs hI => ?_)
    refine lv_aload_n hx hb dX5_stretches_42 rfl (lv_at hl 1 rfl) ?_
    refine w_get (v := .ref (ad 50)) C hinRX5 hI 0 at_C rfl 4 (by decide) lk36 rfl rfl dX5_stretches_43 ?_
    refine w_get (v := .int (st_6 50 1)) C hinRX0 hI 50 at_B rfl 3 (by decide) lk221 rfl rfl dX5_stretches_46 ?_
    obtain ⟨rfl, rfl⟩ := ret2 h
    exact hret H locs _ ls hI dX5_stretches_49
  · replace h := (if_neg c_2).symm.trans h
    refine lv_aload_n hx hb dX5_stretches_10 rfl (lv_at hl 1 rfl) ?_
    refine lv_iload_n hx hb dX5_stretches_11 rfl (lv_at hl 0 rfl) ?_
    obtain ⟨r_8, st_9, hr_7, h⟩ := bd2_some h
    refine callV_I (rest := []) C hI (c_X5_finding l g Y ad r_1 st hr_7) (cwV 1 hts gX5_stretches_X5_finding rfl rfl rfl hv_X5_finding ⟨Nat.le_of_ble_eq_true rfl, Nat.le_of_ble_eq_true rfl⟩) (w_recv C hI 0 at_C rfl) rfl hl.1 rfl (Nat.le_of_ble_eq_true rfl) dX5_stretches_12 (fun H locs hI => ?_)
    obtain ⟨rfl, rfl⟩ := ret2 h
    exact hret H locs _ ls hI dX5_stretches_15
theorem hv_X5_stretches : yX5_stretches.cls = RX5 ∧ yX5_stretches.cls ≠ "java/lang/invoke/MethodHandle" ∧ yX5_stretches.cls ≠ "java/lang/invoke/VarHandle" ∧ (parseMethodDescriptor yX5_stretches.desc).map (fun d => d.parameters.length) = some 1 := by decide +kernel
/-! X5_border -/
def rmX5_border : Room := { frames := 4, cells := 0, slots := 0, locals := 92 }
def f_X5_border (N : Nat) (st : St) (x1 : Int32) (x2 : Int32) : Option (Int32 × St) := bnd (f_X5_stretchHindrance st x1) fun r_1 => if r_1 = 0 then if x2 < 0 then bd2 (f_X5_finding st (-100001 : Int32)) fun r_5 st_6 => some (r_5, st_6) else if x2 < x1 then bd1 (f_X3_solve N st 4095) fun st_9 => bd1 (f_X0_choose N st_9 x1) fun st_11 => bd1 (f_X0_beginOf N st_11 x2) fun r_13 => some (r_13, st_11) else bd2 (f_X5_finding st (-100001 : Int32)) fun r_15 st_16 => some (r_15, st_16) else bd2 (f_X5_finding st r_1) fun r_18 st_19 => some (r_18, st_19)
set_option maxHeartbeats 4000000 in
set_option maxRecDepth 100000 in
theorem c_X5_border (l : Launch) (g : GP) (Y : va_W) (ad : Nat → Nat) (N : Nat) (x1 : Int32) (x2 : Int32)  (st : St) {r : Int32} {st' : St} (h : f_X5_border N st x1 x2 = some (r, st')) : MetI l yX5_border wsX5_border rmX5_border g (wCX g Y ad) [.ref (ad 0), .int x1, .int x2] st (r) st' := by
  refine metI_of (cc := cX5_border) (nL := 4) (ty := .int) (by decide) rfl (Nat.le_of_ble_eq_true rfl) rfl ?_
  intro p e s m below meth c Q A C hret H locs hI ls hl
  have C : Cx p s m _ c cX5_border 4 wsX5_border RX5 g A := C
  obtain ⟨hx, hb, hml, hown, hts⟩ := id C.1
  have hl : lv_has ls 4 [(0, .ref (ad 0)), (1, .int x1), (2, .int x2)] := hl
  have lc47 := hts (.constant RX5 47 (-100001)) (by decide +kernel)
  have hinRX5 : ∀ w ∈ u_ws RX5 TX5 7, w ∈ wsX5_border := by decide +kernel
  have lk29 := hts (.fieldLink RX5 29 "GraveRows" "search" "LGraveRows$RowSearch;") (by decide +kernel)
  have lk12 := hts (.fieldLink RX5 12 "GraveRows" "ground" "LGraveRows$Ground;") (by decide +kernel)
  have lk36 := hts (.fieldLink RX5 36 "GraveRows" "borders" "LGraveRows$Borders;") (by decide +kernel)
  rw [f_X5_border] at h
  refine lv_aload_n hx hb dX5_border_0 rfl (lv_at hl 0 rfl) ?_
  refine lv_iload_n hx hb dX5_border_1 rfl (lv_at hl 1 rfl) ?_
  refine callV_I (rest := []) C hI (c_X5_stretchHindrance l g Y ad x1 st) (cwV 1 hts gX5_border_X5_stretchHindrance rfl rfl rfl hv_X5_stretchHindrance ⟨Nat.le_of_ble_eq_true rfl, Nat.le_of_ble_eq_true rfl⟩) (w_recv C hI 0 at_C rfl) rfl hl.1 rfl (Nat.le_of_ble_eq_true rfl) dX5_border_2 (fun H locs hI => ?_)
  refine gen_i h (fun r_1 h => ?_)
  refine lv_istore_n (lv' := [(3, .int r_1), (0, .ref (ad 0)), (1, .int x1), (2, .int x2)]) hx hb dX5_border_5 rfl hl (by decide) rfl (fun ls hl => ?_)
  refine lv_iload_n hx hb dX5_border_6 rfl (lv_at hl 0 rfl) ?_
  refine lv_if_eq (tgt := 16) hx hb dX5_border_7 (by decide) (fun c_2 => ?_) (fun c_2 => ?_)
  · replace h := (if_pos c_2).symm.trans h
    refine lv_iload_n hx hb dX5_border_16 rfl (lv_at hl 3 rfl) ?_
    refine lv_if_lt (tgt := 25) hx hb dX5_border_17 (by decide) (fun c_3 => ?_) (fun c_3 => ?_)
    · replace h := (if_pos c_3).symm.trans h
      refine lv_aload_n hx hb dX5_border_25 rfl (lv_at hl 1 rfl) ?_
      refine lv_ldc (v := (-100001)) hx hb hown lc47 dX5_border_26 ?_
      obtain ⟨r_5, st_6, hr_4, h⟩ := bd2_some h
      refine callV_I (rest := []) C hI (c_X5_finding l g Y ad (-100001 : Int32) st hr_4) (cwV 1 hts gX5_border_X5_finding rfl rfl rfl hv_X5_finding ⟨Nat.le_of_ble_eq_true rfl, Nat.le_of_ble_eq_true rfl⟩) (w_recv C hI 0 at_C rfl) rfl hl.1 rfl (Nat.le_of_ble_eq_true rfl) dX5_border_28 (fun H locs hI => ?_)
      obtain ⟨rfl, rfl⟩ := ret2 h
      exact hret H locs _ ls hI dX5_border_31
    · replace h := (if_neg c_3).symm.trans h
      refine lv_iload_n hx hb dX5_border_20 rfl (lv_at hl 3 rfl) ?_
      refine lv_iload_n hx hb dX5_border_21 rfl (lv_at hl 2 rfl) ?_
      refine lv_icmp_lt (tgt := 32) hx hb dX5_border_22 (by decide) (fun c_7 => ?_) (fun c_7 => ?_)
      · replace h := (if_pos c_7).symm.trans h
        refine lv_aload_n hx hb dX5_border_32 rfl (lv_at hl 1 rfl) ?_
        refine w_get (v := .ref (ad 42)) C hinRX5 hI 0 at_C rfl 3 (by decide) lk29 rfl rfl dX5_border_33 ?_
        refine lv_aload_n hx hb dX5_border_36 rfl (lv_at hl 1 rfl) ?_
        refine w_get (v := .ref (ad 1)) C hinRX5 hI 0 at_C rfl 0 (by decide) lk12 rfl rfl dX5_border_37 ?_
        refine lv_sipush (v := 4095) hx hb dX5_border_40 (by decide) ?_
        obtain ⟨st_9, hr_8, h⟩ := bd1_some h
        refine callV_V (rest := []) C hI (c_X3_solve l g Y ad N 4095 st hr_8) (cwV 2 hts gX5_border_X3_solve rfl rfl rfl hv_X3_solve ⟨Nat.le_of_ble_eq_true rfl, Nat.le_of_ble_eq_true rfl⟩) (w_recv C hI 42 at_R rfl) rfl hl.1 rfl (Nat.le_of_ble_eq_true rfl) dX5_border_43 (fun H locs hI => ?_)
        refine lv_aload_n hx hb dX5_border_46 rfl (lv_at hl 1 rfl) ?_
        refine w_get (v := .ref (ad 50)) C hinRX5 hI 0 at_C rfl 4 (by decide) lk36 rfl rfl dX5_border_47 ?_
        refine lv_aload_n hx hb dX5_border_50 rfl (lv_at hl 1 rfl) ?_
        refine w_get (v := .ref (ad 42)) C hinRX5 hI 0 at_C rfl 3 (by decide) lk29 rfl rfl dX5_border_51 ?_
        refine lv_iload_n hx hb dX5_border_54 rfl (lv_at hl 2 rfl) ?_
        obtain ⟨st_11, hr_10, h⟩ := bd1_some h
        refine callV_V (rest := []) C hI (c_X0_choose l g Y ad N x1 st_9 hr_10) (cwV 2 hts gX5_border_X0_choose rfl rfl rfl hv_X0_choose ⟨Nat.le_of_ble_eq_true rfl, Nat.le_of_ble_eq_true rfl⟩) (w_recv C hI 50 at_B rfl) rfl hl.1 rfl (Nat.le_of_ble_eq_true rfl) dX5_border_55 (fun H locs hI => ?_)
        refine lv_aload_n hx hb dX5_border_58 rfl (lv_at hl 1 rfl) ?_
        refine w_get (v := .ref (ad 50)) C hinRX5 hI 0 at_C rfl 4 (by decide) lk36 rfl rfl dX5_border_59 ?_
        refine lv_iload_n hx hb dX5_border_62 rfl (lv_at hl 3 rfl) ?_
        obtain ⟨r_13, hr_12, h⟩ := bd1_some h
        refine callV_I (rest := []) C hI (c_X0_beginOf l g Y ad N x2 st_11 hr_12) (cwV 1 hts gX5_border_X0_beginOf rfl rfl rfl hv_X0_beginOf ⟨Nat.le_of_ble_eq_true rfl, Nat.le_of_ble_eq_true rfl⟩) (w_recv C hI 50 at_B rfl) rfl hl.1 rfl (Nat.le_of_ble_eq_true rfl) dX5_border_63 (fun H locs hI => ?_)
        obtain ⟨rfl, rfl⟩ := ret2 h
        exact hret H locs _ ls hI dX5_border_66
      · replace h := (if_neg c_7).symm.trans h
        refine lv_aload_n hx hb dX5_border_25 rfl (lv_at hl 1 rfl) ?_
        refine lv_ldc (v := (-100001)) hx hb hown lc47 dX5_border_26 ?_
        obtain ⟨r_15, st_16, hr_14, h⟩ := bd2_some h
        refine callV_I (rest := []) C hI (c_X5_finding l g Y ad (-100001 : Int32) st hr_14) (cwV 1 hts gX5_border_X5_finding rfl rfl rfl hv_X5_finding ⟨Nat.le_of_ble_eq_true rfl, Nat.le_of_ble_eq_true rfl⟩) (w_recv C hI 0 at_C rfl) rfl hl.1 rfl (Nat.le_of_ble_eq_true rfl) dX5_border_28 (fun H locs hI => ?_)
        obtain ⟨rfl, rfl⟩ := ret2 h
        exact hret H locs _ ls hI dX5_border_31
  · replace h := (if_neg c_2).symm.trans h
    refine lv_aload_n hx hb dX5_border_10 rfl (lv_at hl 1 rfl) ?_
    refine lv_iload_n hx hb dX5_border_11 rfl (lv_at hl 0 rfl) ?_
    obtain ⟨r_18, st_19, hr_17, h⟩ := bd2_some h
    refine callV_I (rest := []) C hI (c_X5_finding l g Y ad r_1 st hr_17) (cwV 1 hts gX5_border_X5_finding rfl rfl rfl hv_X5_finding ⟨Nat.le_of_ble_eq_true rfl, Nat.le_of_ble_eq_true rfl⟩) (w_recv C hI 0 at_C rfl) rfl hl.1 rfl (Nat.le_of_ble_eq_true rfl) dX5_border_12 (fun H locs hI => ?_)
    obtain ⟨rfl, rfl⟩ := ret2 h
    exact hret H locs _ ls hI dX5_border_15
theorem hv_X5_border : yX5_border.cls = RX5 ∧ yX5_border.cls ≠ "java/lang/invoke/MethodHandle" ∧ yX5_border.cls ≠ "java/lang/invoke/VarHandle" ∧ (parseMethodDescriptor yX5_border.desc).map (fun d => d.parameters.length) = some 2 := by decide +kernel
/-! X5_year -/
def rmX5_year : Room := { frames := 4, cells := 0, slots := 0, locals := 92 }
def f_X5_year (N : Nat) (st : St) (x1 : Int32) (x2 : Bool) : Option (Int32 × St) := bnd (f_X2_holds st x1) fun r_1 => if b2i r_1 = 0 then bd2 (f_X5_finding st (-100001 : Int32)) fun r_11 st_12 => some (r_11, st_12) else if b2i x2 = 0 then bd2 (f_X2_earliestOf N st x1) fun r_5 st_6 => some (r_5, st_6) else bd2 (f_X2_latestOf N st x1) fun r_8 st_9 => some (r_8, st_9)
set_option maxHeartbeats 4000000 in
set_option maxRecDepth 100000 in
theorem c_X5_year (l : Launch) (g : GP) (Y : va_W) (ad : Nat → Nat) (N : Nat) (x1 : Int32) (x2 : Bool)  (st : St) {r : Int32} {st' : St} (h : f_X5_year N st x1 x2 = some (r, st')) : MetI l yX5_year wsX5_year rmX5_year g (wCX g Y ad) [.ref (ad 0), .int x1, .int (b2i x2)] st (r) st' := by
  refine metI_of (cc := cX5_year) (nL := 3) (ty := .int) (by decide) rfl (Nat.le_of_ble_eq_true rfl) rfl ?_
  intro p e s m below meth c Q A C hret H locs hI ls hl
  have C : Cx p s m _ c cX5_year 3 wsX5_year RX5 g A := C
  obtain ⟨hx, hb, hml, hown, hts⟩ := id C.1
  have hl : lv_has ls 3 [(0, .ref (ad 0)), (1, .int x1), (2, .int (b2i x2))] := hl
  have hinRX5 : ∀ w ∈ u_ws RX5 TX5 7, w ∈ wsX5_year := by decide +kernel
  have lk12 := hts (.fieldLink RX5 12 "GraveRows" "ground" "LGraveRows$Ground;") (by decide +kernel)
  have lc47 := hts (.constant RX5 47 (-100001)) (by decide +kernel)
  rw [f_X5_year] at h
  refine lv_aload_n hx hb dX5_year_0 rfl (lv_at hl 0 rfl) ?_
  refine w_get (v := .ref (ad 1)) C hinRX5 hI 0 at_C rfl 0 (by decide) lk12 rfl rfl dX5_year_1 ?_
  refine lv_iload_n hx hb dX5_year_4 rfl (lv_at hl 1 rfl) ?_
  refine callV_I (rest := []) C hI (c_X2_holds l g Y ad x1 st) (cwV 1 hts gX5_year_X2_holds rfl rfl rfl hv_X2_holds ⟨Nat.le_of_ble_eq_true rfl, Nat.le_of_ble_eq_true rfl⟩) (w_recv C hI 1 at_G0 rfl) rfl hl.1 rfl (Nat.le_of_ble_eq_true rfl) dX5_year_5 (fun H locs hI => ?_)
  refine gen_b h (fun r_1 h => ?_)
  refine lv_if_ne (tgt := 18) hx hb dX5_year_8 (by decide) (fun c_2 => ?_) (fun c_2 => ?_)
  · replace h := (if_neg c_2).symm.trans h
    refine lv_iload_n hx hb dX5_year_18 rfl (lv_at hl 2 rfl) ?_
    refine lv_if_eq (tgt := 33) hx hb dX5_year_19 (by decide) (fun c_3 => ?_) (fun c_3 => ?_)
    · replace h := (if_pos c_3).symm.trans h
      refine lv_aload_n hx hb dX5_year_33 rfl (lv_at hl 0 rfl) ?_
      refine w_get (v := .ref (ad 1)) C hinRX5 hI 0 at_C rfl 0 (by decide) lk12 rfl rfl dX5_year_34 ?_
      refine lv_iload_n hx hb dX5_year_37 rfl (lv_at hl 1 rfl) ?_
      obtain ⟨r_5, st_6, hr_4, h⟩ := bd2_some h
      refine callV_I (rest := []) C hI (c_X2_earliestOf l g Y ad N x1 st hr_4) (cwV 1 hts gX5_year_X2_earliestOf rfl rfl rfl hv_X2_earliestOf ⟨Nat.le_of_ble_eq_true rfl, Nat.le_of_ble_eq_true rfl⟩) (w_recv C hI 1 at_G0 rfl) rfl hl.1 rfl (Nat.le_of_ble_eq_true rfl) dX5_year_38 (fun H locs hI => ?_)
      obtain ⟨rfl, rfl⟩ := ret2 h
      exact hret H locs _ ls hI dX5_year_41
    · replace h := (if_neg c_3).symm.trans h
      refine lv_aload_n hx hb dX5_year_22 rfl (lv_at hl 0 rfl) ?_
      refine w_get (v := .ref (ad 1)) C hinRX5 hI 0 at_C rfl 0 (by decide) lk12 rfl rfl dX5_year_23 ?_
      refine lv_iload_n hx hb dX5_year_26 rfl (lv_at hl 1 rfl) ?_
      obtain ⟨r_8, st_9, hr_7, h⟩ := bd2_some h
      refine callV_I (rest := []) C hI (c_X2_latestOf l g Y ad N x1 st hr_7) (cwV 1 hts gX5_year_X2_latestOf rfl rfl rfl hv_X2_latestOf ⟨Nat.le_of_ble_eq_true rfl, Nat.le_of_ble_eq_true rfl⟩) (w_recv C hI 1 at_G0 rfl) rfl hl.1 rfl (Nat.le_of_ble_eq_true rfl) dX5_year_27 (fun H locs hI => ?_)
      refine lv_goto (tgt := 41) hx hb dX5_year_30 (by decide) ?_
      obtain ⟨rfl, rfl⟩ := ret2 h
      exact hret H locs _ ls hI dX5_year_41
  · replace h := (if_pos c_2).symm.trans h
    refine lv_aload_n hx hb dX5_year_11 rfl (lv_at hl 0 rfl) ?_
    refine lv_ldc (v := (-100001)) hx hb hown lc47 dX5_year_12 ?_
    obtain ⟨r_11, st_12, hr_10, h⟩ := bd2_some h
    refine callV_I (rest := []) C hI (c_X5_finding l g Y ad (-100001 : Int32) st hr_10) (cwV 1 hts gX5_year_X5_finding rfl rfl rfl hv_X5_finding ⟨Nat.le_of_ble_eq_true rfl, Nat.le_of_ble_eq_true rfl⟩) (w_recv C hI 0 at_C rfl) rfl hl.1 rfl (Nat.le_of_ble_eq_true rfl) dX5_year_14 (fun H locs hI => ?_)
    obtain ⟨rfl, rfl⟩ := ret2 h
    exact hret H locs _ ls hI dX5_year_17
theorem hv_X5_year : yX5_year.cls = RX5 ∧ yX5_year.cls ≠ "java/lang/invoke/MethodHandle" ∧ yX5_year.cls ≠ "java/lang/invoke/VarHandle" ∧ (parseMethodDescriptor yX5_year.desc).map (fun d => d.parameters.length) = some 2 := by decide +kernel
/-! X5_wrong -/
def rmX5_wrong : Room := { frames := 4, cells := 0, slots := 0, locals := 92 }
def f_X5_wrong_L2 (N : Nat) (k : Int32 → St → Option (Int32 × St)) : Nat → Int32 → St → Option (Int32 × St)
  | 0, _, _ => none
  | n + 1, x1, st => if st 13 0 ≤ x1 then k x1 st else bd2 (f_X2_earliestOf N st x1) fun r_3 st_4 => bd2 (f_X2_latestOf N st_4 x1) fun r_6 st_7 => if r_3 ≤ r_6 then f_X5_wrong_L2 N k n (x1 + 1) st_7 else some (x1, st_7)
def f_X5_wrong (N : Nat) (st : St) : Option (Int32 × St) := f_X5_wrong_L2 N (fun a_9 st_10 => some (-1, st_10)) N 0 st
set_option maxHeartbeats 4000000 in
set_option maxRecDepth 100000 in
theorem wl_X5_wrong_L2 {p : Program} {l : Launch} {e : Env} {s : State} {m : MethodId} {args : Array Value} {below : List Frame} {meth : Method} {c : Code} {Q : State → Prop} {A : Nat → Prop} {g : GP} {Y : va_W} {ad : Nat → Nat} {r : Int32} {st' : St} (C : Cx p s m args c cX5_wrong 2 wsX5_wrong RX5 g A) (hret : RetI p l e rmX5_wrong s m args below meth c Q cX5_wrong g A (wCX g Y ad st') (r)) (N : Nat)  (k : Int32 → St → Option (Int32 × St)) (hk : ∀ (x1 : Int32) (st : St) (H : Heap) (locs : List Loc) (ls : Array Slot), k x1 st = some (r, st') → IW g A s.heap (wCX g Y ad st) H locs → lv_has ls 2 [(0, .ref (ad 0)), (1, .int x1)] → W p l e rmX5_wrong s m args below meth c H locs 0 0 Q (F0 m 40 ls [])) : ∀ (n : Nat) (x1 : Int32) (st : St) (H : Heap) (locs : List Loc) (ls : Array Slot), f_X5_wrong_L2 N k n x1 st = some (r, st') → IW g A s.heap (wCX g Y ad st) H locs → lv_has ls 2 [(0, .ref (ad 0)), (1, .int x1)] → W p l e rmX5_wrong s m args below meth c H locs 0 0 Q (F0 m 2 ls []) := by
  obtain ⟨hx, hb, hml, hown, hts⟩ := id C.1
  have hinRX5 : ∀ w ∈ u_ws RX5 TX5 7, w ∈ wsX5_wrong := by decide +kernel
  have lk12 := hts (.fieldLink RX5 12 "GraveRows" "ground" "LGraveRows$Ground;") (by decide +kernel)
  have hinRX2 : ∀ w ∈ u_ws RX2 TX2 7, w ∈ wsX5_wrong := by decide +kernel
  have lk52 := hts (.fieldLink RX5 52 "GraveRows$Ground" "size" "I") (by decide +kernel)
  intro n
  induction n with
  | zero =>
    intro x1 st H locs ls h hI hl
    rw [f_X5_wrong_L2] at h
    cases h
  | succ n ih =>
    intro x1 st H locs ls h hI hl
    rw [f_X5_wrong_L2] at h
    refine lv_iload_n hx hb dX5_wrong_2 rfl (lv_at hl 1 rfl) ?_
    refine lv_aload_n hx hb dX5_wrong_3 rfl (lv_at hl 0 rfl) ?_
    refine w_get (v := .ref (ad 1)) C hinRX5 hI 0 at_C rfl 0 (by decide) lk12 rfl rfl dX5_wrong_4 ?_
    refine w_get (v := .int (st 13 0)) C hinRX2 hI 1 at_G0 rfl 5 (by decide) lk52 rfl rfl dX5_wrong_7 ?_
    refine lv_icmp_ge (tgt := 40) hx hb dX5_wrong_10 (by decide) (fun c_1 => ?_) (fun c_1 => ?_)
    · replace h := (if_pos c_1).symm.trans h
      exact hk _ _ _ _ _ h hI (lv_sub hl [0, 1] rfl)
    · replace h := (if_neg c_1).symm.trans h
      refine lv_aload_n hx hb dX5_wrong_13 rfl (lv_at hl 0 rfl) ?_
      refine w_get (v := .ref (ad 1)) C hinRX5 hI 0 at_C rfl 0 (by decide) lk12 rfl rfl dX5_wrong_14 ?_
      refine lv_iload_n hx hb dX5_wrong_17 rfl (lv_at hl 1 rfl) ?_
      obtain ⟨r_3, st_4, hr_2, h⟩ := bd2_some h
      refine callV_I (rest := []) C hI (c_X2_earliestOf l g Y ad N x1 st hr_2) (cwV 1 hts gX5_wrong_X2_earliestOf rfl rfl rfl hv_X2_earliestOf ⟨Nat.le_of_ble_eq_true rfl, Nat.le_of_ble_eq_true rfl⟩) (w_recv C hI 1 at_G0 rfl) rfl hl.1 rfl (Nat.le_of_ble_eq_true rfl) dX5_wrong_18 (fun H locs hI => ?_)
      refine lv_aload_n hx hb dX5_wrong_21 rfl (lv_at hl 0 rfl) ?_
      refine w_get (v := .ref (ad 1)) C hinRX5 hI 0 at_C rfl 0 (by decide) lk12 rfl rfl dX5_wrong_22 ?_
      refine lv_iload_n hx hb dX5_wrong_25 rfl (lv_at hl 1 rfl) ?_
      obtain ⟨r_6, st_7, hr_5, h⟩ := bd2_some h
      refine callV_I (rest := [.int r_3]) C hI (c_X2_latestOf l g Y ad N x1 st_4 hr_5) (cwV 1 hts gX5_wrong_X2_latestOf rfl rfl rfl hv_X2_latestOf ⟨Nat.le_of_ble_eq_true rfl, Nat.le_of_ble_eq_true rfl⟩) (w_recv C hI 1 at_G0 rfl) rfl hl.1 rfl (Nat.le_of_ble_eq_true rfl) dX5_wrong_26 (fun H locs hI => ?_)
      refine lv_icmp_le (tgt := 34) hx hb dX5_wrong_29 (by decide) (fun c_8 => ?_) (fun c_8 => ?_)
      · replace h := (if_pos c_8).symm.trans h
        refine lv_iinc (v := x1 + 1) (lv' := [(1, .int (x1 + 1)), (0, .ref (ad 0))]) hx hb dX5_wrong_34 hl (k := 1) rfl rfl (by decide) rfl (fun ls hl => ?_)
        refine lv_goto (tgt := 2) hx hb dX5_wrong_37 (by decide) ?_
        exact ih _ _ _ _ _ h hI (lv_sub hl [1, 0] rfl)
      · replace h := (if_neg c_8).symm.trans h
        refine lv_iload_n hx hb dX5_wrong_32 rfl (lv_at hl 1 rfl) ?_
        obtain ⟨rfl, rfl⟩ := ret2 h
        exact hret H locs _ ls hI dX5_wrong_33
set_option maxHeartbeats 4000000 in
set_option maxRecDepth 100000 in
theorem c_X5_wrong (l : Launch) (g : GP) (Y : va_W) (ad : Nat → Nat) (N : Nat)  (st : St) {r : Int32} {st' : St} (h : f_X5_wrong N st = some (r, st')) : MetI l yX5_wrong wsX5_wrong rmX5_wrong g (wCX g Y ad) [.ref (ad 0)] st (r) st' := by
  refine metI_of (cc := cX5_wrong) (nL := 2) (ty := .int) (by decide) rfl (Nat.le_of_ble_eq_true rfl) rfl ?_
  intro p e s m below meth c Q A C hret H locs hI ls hl
  have C : Cx p s m _ c cX5_wrong 2 wsX5_wrong RX5 g A := C
  obtain ⟨hx, hb, hml, hown, hts⟩ := id C.1
  have hl : lv_has ls 2 [(0, .ref (ad 0))] := hl
  rw [f_X5_wrong] at h
  refine lv_iconst (v := 0) hx hb dX5_wrong_0 (by decide) ?_
  refine lv_istore_n (lv' := [(1, .int 0), (0, .ref (ad 0))]) hx hb dX5_wrong_1 rfl hl (by decide) rfl (fun ls hl => ?_)
  refine wl_X5_wrong_L2 C hret N _ (fun a_9 st_10 H locs ls h hI hl => ?_) N 0 st H locs ls h hI (lv_sub hl [1, 0] rfl)
  refine lv_iconst (v := (-1)) hx hb dX5_wrong_40 (by decide) ?_
  obtain ⟨rfl, rfl⟩ := ret2 h
  exact hret H locs _ ls hI dX5_wrong_41
theorem hv_X5_wrong : yX5_wrong.cls = RX5 ∧ yX5_wrong.cls ≠ "java/lang/invoke/MethodHandle" ∧ yX5_wrong.cls ≠ "java/lang/invoke/VarHandle" ∧ (parseMethodDescriptor yX5_wrong.desc).map (fun d => d.parameters.length) = some 0 := by decide +kernel
/-! X5_in -/
def rmX5_in : Room := { frames := 4, cells := 0, slots := 0, locals := 92 }
def f_X5_in_L18 (N : Nat) (x1 : Int32) (k : Int32 → Int32 → St → Option (Int32 × St)) : Nat → Int32 → Int32 → St → Option (Int32 × St)
  | 0, _, _, _ => none
  | n + 1, x2, x3, st => if st 13 0 ≤ x3 then k x2 x3 st else bd2 (f_X2_earliestOf N st x3) fun r_5 st_6 => if x1 < r_5 then f_X5_in_L18 N x1 k n x2 (x3 + 1) st_6 else bd2 (f_X2_latestOf N st_6 x3) fun r_9 st_10 => if r_9 < x1 then f_X5_in_L18 N x1 k n x2 (x3 + 1) st_10 else f_X5_in_L18 N x1 k n (x2 + 1) (x3 + 1) st_10
def f_X5_in (N : Nat) (st : St) (x1 : Int32) : Option (Int32 × St) := bnd (f_X5_isYear x1) fun r_1 => if b2i r_1 = 0 then bd2 (f_X5_finding st (-100001 : Int32)) fun r_16 st_17 => some (r_16, st_17) else f_X5_in_L18 N x1 (fun a_12 a_13 st_14 => some (a_12, st_14)) N 0 0 st
set_option maxHeartbeats 4000000 in
set_option maxRecDepth 100000 in
theorem wl_X5_in_L18 {p : Program} {l : Launch} {e : Env} {s : State} {m : MethodId} {args : Array Value} {below : List Frame} {meth : Method} {c : Code} {Q : State → Prop} {A : Nat → Prop} {g : GP} {Y : va_W} {ad : Nat → Nat} {r : Int32} {st' : St} (C : Cx p s m args c cX5_in 4 wsX5_in RX5 g A) (hret : RetI p l e rmX5_in s m args below meth c Q cX5_in g A (wCX g Y ad st') (r)) (N : Nat) (x1 : Int32)  (k : Int32 → Int32 → St → Option (Int32 × St)) (hk : ∀ (x2 : Int32) (x3 : Int32) (st : St) (H : Heap) (locs : List Loc) (ls : Array Slot), k x2 x3 st = some (r, st') → IW g A s.heap (wCX g Y ad st) H locs → lv_has ls 4 [(0, .ref (ad 0)), (1, .int x1), (2, .int x2), (3, .int x3)] → W p l e rmX5_in s m args below meth c H locs 0 0 Q (F0 m 62 ls [])) : ∀ (n : Nat) (x2 : Int32) (x3 : Int32) (st : St) (H : Heap) (locs : List Loc) (ls : Array Slot), f_X5_in_L18 N x1 k n x2 x3 st = some (r, st') → IW g A s.heap (wCX g Y ad st) H locs → lv_has ls 4 [(0, .ref (ad 0)), (1, .int x1), (2, .int x2), (3, .int x3)] → W p l e rmX5_in s m args below meth c H locs 0 0 Q (F0 m 18 ls []) := by
  obtain ⟨hx, hb, hml, hown, hts⟩ := id C.1
  have hinRX5 : ∀ w ∈ u_ws RX5 TX5 7, w ∈ wsX5_in := by decide +kernel
  have lk12 := hts (.fieldLink RX5 12 "GraveRows" "ground" "LGraveRows$Ground;") (by decide +kernel)
  have hinRX2 : ∀ w ∈ u_ws RX2 TX2 7, w ∈ wsX5_in := by decide +kernel
  have lk52 := hts (.fieldLink RX5 52 "GraveRows$Ground" "size" "I") (by decide +kernel)
  intro n
  induction n with
  | zero =>
    intro x2 x3 st H locs ls h hI hl
    rw [f_X5_in_L18] at h
    cases h
  | succ n ih =>
    intro x2 x3 st H locs ls h hI hl
    rw [f_X5_in_L18] at h
    refine lv_iload_n hx hb dX5_in_18 rfl (lv_at hl 3 rfl) ?_
    refine lv_aload_n hx hb dX5_in_19 rfl (lv_at hl 0 rfl) ?_
    refine w_get (v := .ref (ad 1)) C hinRX5 hI 0 at_C rfl 0 (by decide) lk12 rfl rfl dX5_in_20 ?_
    refine w_get (v := .int (st 13 0)) C hinRX2 hI 1 at_G0 rfl 5 (by decide) lk52 rfl rfl dX5_in_23 ?_
    refine lv_icmp_ge (tgt := 62) hx hb dX5_in_26 (by decide) (fun c_3 => ?_) (fun c_3 => ?_)
    · replace h := (if_pos c_3).symm.trans h
      exact hk _ _ _ _ _ _ h hI (lv_sub hl [0, 1, 2, 3] rfl)
    · replace h := (if_neg c_3).symm.trans h
      refine lv_aload_n hx hb dX5_in_29 rfl (lv_at hl 0 rfl) ?_
      refine w_get (v := .ref (ad 1)) C hinRX5 hI 0 at_C rfl 0 (by decide) lk12 rfl rfl dX5_in_30 ?_
      refine lv_iload_n hx hb dX5_in_33 rfl (lv_at hl 3 rfl) ?_
      obtain ⟨r_5, st_6, hr_4, h⟩ := bd2_some h
      refine callV_I (rest := []) C hI (c_X2_earliestOf l g Y ad N x3 st hr_4) (cwV 1 hts gX5_in_X2_earliestOf rfl rfl rfl hv_X2_earliestOf ⟨Nat.le_of_ble_eq_true rfl, Nat.le_of_ble_eq_true rfl⟩) (w_recv C hI 1 at_G0 rfl) rfl hl.1 rfl (Nat.le_of_ble_eq_true rfl) dX5_in_34 (fun H locs hI => ?_)
      refine lv_iload_n hx hb dX5_in_37 rfl (lv_at hl 1 rfl) ?_
      refine lv_icmp_gt (tgt := 56) hx hb dX5_in_38 (by decide) (fun c_7 => ?_) (fun c_7 => ?_)
      · replace h := (if_pos c_7).symm.trans h
        refine lv_iinc (v := x3 + 1) (lv' := [(3, .int (x3 + 1)), (0, .ref (ad 0)), (1, .int x1), (2, .int x2)]) hx hb dX5_in_56 hl (k := 3) rfl rfl (by decide) rfl (fun ls hl => ?_)
        refine lv_goto (tgt := 18) hx hb dX5_in_59 (by decide) ?_
        exact ih _ _ _ _ _ _ h hI (lv_sub hl [1, 2, 3, 0] rfl)
      · replace h := (if_neg c_7).symm.trans h
        refine lv_iload_n hx hb dX5_in_41 rfl (lv_at hl 1 rfl) ?_
        refine lv_aload_n hx hb dX5_in_42 rfl (lv_at hl 0 rfl) ?_
        refine w_get (v := .ref (ad 1)) C hinRX5 hI 0 at_C rfl 0 (by decide) lk12 rfl rfl dX5_in_43 ?_
        refine lv_iload_n hx hb dX5_in_46 rfl (lv_at hl 3 rfl) ?_
        obtain ⟨r_9, st_10, hr_8, h⟩ := bd2_some h
        refine callV_I (rest := [.int x1]) C hI (c_X2_latestOf l g Y ad N x3 st_6 hr_8) (cwV 1 hts gX5_in_X2_latestOf rfl rfl rfl hv_X2_latestOf ⟨Nat.le_of_ble_eq_true rfl, Nat.le_of_ble_eq_true rfl⟩) (w_recv C hI 1 at_G0 rfl) rfl hl.1 rfl (Nat.le_of_ble_eq_true rfl) dX5_in_47 (fun H locs hI => ?_)
        refine lv_icmp_gt (tgt := 56) hx hb dX5_in_50 (by decide) (fun c_11 => ?_) (fun c_11 => ?_)
        · replace h := (if_pos c_11).symm.trans h
          refine lv_iinc (v := x3 + 1) (lv' := [(3, .int (x3 + 1)), (0, .ref (ad 0)), (1, .int x1), (2, .int x2)]) hx hb dX5_in_56 hl (k := 3) rfl rfl (by decide) rfl (fun ls hl => ?_)
          refine lv_goto (tgt := 18) hx hb dX5_in_59 (by decide) ?_
          exact ih _ _ _ _ _ _ h hI (lv_sub hl [1, 2, 3, 0] rfl)
        · replace h := (if_neg c_11).symm.trans h
          refine lv_iinc (v := x2 + 1) (lv' := [(2, .int (x2 + 1)), (0, .ref (ad 0)), (1, .int x1), (3, .int x3)]) hx hb dX5_in_53 hl (k := 2) rfl rfl (by decide) rfl (fun ls hl => ?_)
          refine lv_iinc (v := x3 + 1) (lv' := [(3, .int (x3 + 1)), (2, .int (x2 + 1)), (0, .ref (ad 0)), (1, .int x1)]) hx hb dX5_in_56 hl (k := 3) rfl rfl (by decide) rfl (fun ls hl => ?_)
          refine lv_goto (tgt := 18) hx hb dX5_in_59 (by decide) ?_
          exact ih _ _ _ _ _ _ h hI (lv_sub hl [2, 3, 1, 0] rfl)
set_option maxHeartbeats 4000000 in
set_option maxRecDepth 100000 in
theorem c_X5_in (l : Launch) (g : GP) (Y : va_W) (ad : Nat → Nat) (N : Nat) (x1 : Int32)  (st : St) {r : Int32} {st' : St} (h : f_X5_in N st x1 = some (r, st')) : MetI l yX5_in wsX5_in rmX5_in g (wCX g Y ad) [.ref (ad 0), .int x1] st (r) st' := by
  refine metI_of (cc := cX5_in) (nL := 4) (ty := .int) (by decide) rfl (Nat.le_of_ble_eq_true rfl) rfl ?_
  intro p e s m below meth c Q A C hret H locs hI ls hl
  have C : Cx p s m _ c cX5_in 4 wsX5_in RX5 g A := C
  obtain ⟨hx, hb, hml, hown, hts⟩ := id C.1
  have hl : lv_has ls 4 [(0, .ref (ad 0)), (1, .int x1)] := hl
  have lc47 := hts (.constant RX5 47 (-100001)) (by decide +kernel)
  rw [f_X5_in] at h
  refine lv_iload_n hx hb dX5_in_0 rfl (lv_at hl 1 rfl) ?_
  refine callS_S (rest := []) C.1 (c_X5_isYear l x1) (va_cwS 1 hts gX5_in_X5_isYear rfl rfl rfl hd_X5_isYear ⟨Nat.le_of_ble_eq_true rfl, Nat.le_of_ble_eq_true rfl⟩) rfl hl.1 rfl (Nat.le_of_ble_eq_true rfl) dX5_in_1 ?_
  refine gen_b h (fun r_1 h => ?_)
  refine lv_if_ne (tgt := 14) hx hb dX5_in_4 (by decide) (fun c_2 => ?_) (fun c_2 => ?_)
  · replace h := (if_neg c_2).symm.trans h
    refine lv_iconst (v := 0) hx hb dX5_in_14 (by decide) ?_
    refine lv_istore_n (lv' := [(2, .int 0), (0, .ref (ad 0)), (1, .int x1)]) hx hb dX5_in_15 rfl hl (by decide) rfl (fun ls hl => ?_)
    refine lv_iconst (v := 0) hx hb dX5_in_16 (by decide) ?_
    refine lv_istore_n (lv' := [(3, .int 0), (2, .int 0), (0, .ref (ad 0)), (1, .int x1)]) hx hb dX5_in_17 rfl hl (by decide) rfl (fun ls hl => ?_)
    refine wl_X5_in_L18 C hret N x1 _ (fun a_12 a_13 st_14 H locs ls h hI hl => ?_) N 0 0 st H locs ls h hI (lv_sub hl [2, 3, 1, 0] rfl)
    refine lv_iload_n hx hb dX5_in_62 rfl (lv_at hl 2 rfl) ?_
    obtain ⟨rfl, rfl⟩ := ret2 h
    exact hret H locs _ ls hI dX5_in_63
  · replace h := (if_pos c_2).symm.trans h
    refine lv_aload_n hx hb dX5_in_7 rfl (lv_at hl 0 rfl) ?_
    refine lv_ldc (v := (-100001)) hx hb hown lc47 dX5_in_8 ?_
    obtain ⟨r_16, st_17, hr_15, h⟩ := bd2_some h
    refine callV_I (rest := []) C hI (c_X5_finding l g Y ad (-100001 : Int32) st hr_15) (cwV 1 hts gX5_in_X5_finding rfl rfl rfl hv_X5_finding ⟨Nat.le_of_ble_eq_true rfl, Nat.le_of_ble_eq_true rfl⟩) (w_recv C hI 0 at_C rfl) rfl hl.1 rfl (Nat.le_of_ble_eq_true rfl) dX5_in_10 (fun H locs hI => ?_)
    obtain ⟨rfl, rfl⟩ := ret2 h
    exact hret H locs _ ls hI dX5_in_13
theorem hv_X5_in : yX5_in.cls = RX5 ∧ yX5_in.cls ≠ "java/lang/invoke/MethodHandle" ∧ yX5_in.cls ≠ "java/lang/invoke/VarHandle" ∧ (parseMethodDescriptor yX5_in.desc).map (fun d => d.parameters.length) = some 1 := by decide +kernel
/-! X5_used -/
def rmX5_used : Room := { frames := 5, cells := 0, slots := 0, locals := 115 }
def f_X5_used (N : Nat) (st : St) (x1 : Int32) (x2 : Bool) : Option (Int32 × St) := bnd (f_X5_isGood x1) fun r_1 => if b2i r_1 = 0 then bd2 (f_X5_finding st (-100001 : Int32)) fun r_17 st_18 => some (r_17, st_18) else bd1 (f_X2_havers N st x1) fun r_4 => if r_4 = 0 then bd2 (f_X5_finding st (-100006 : Int32)) fun r_14 st_15 => some (r_14, st_15) else if b2i x2 = 0 then bd2 (f_X2_leastEarliest N st r_4) fun r_8 st_9 => some (r_8, st_9) else bd2 (f_X2_greatestLatest N st r_4) fun r_11 st_12 => some (r_11, st_12)
set_option maxHeartbeats 4000000 in
set_option maxRecDepth 100000 in
theorem c_X5_used (l : Launch) (g : GP) (Y : va_W) (ad : Nat → Nat) (N : Nat) (x1 : Int32) (x2 : Bool)  (st : St) {r : Int32} {st' : St} (h : f_X5_used N st x1 x2 = some (r, st')) : MetI l yX5_used wsX5_used rmX5_used g (wCX g Y ad) [.ref (ad 0), .int x1, .int (b2i x2)] st (r) st' := by
  refine metI_of (cc := cX5_used) (nL := 4) (ty := .int) (by decide) rfl (Nat.le_of_ble_eq_true rfl) rfl ?_
  intro p e s m below meth c Q A C hret H locs hI ls hl
  have C : Cx p s m _ c cX5_used 4 wsX5_used RX5 g A := C
  obtain ⟨hx, hb, hml, hown, hts⟩ := id C.1
  have hl : lv_has ls 4 [(0, .ref (ad 0)), (1, .int x1), (2, .int (b2i x2))] := hl
  have hinRX5 : ∀ w ∈ u_ws RX5 TX5 7, w ∈ wsX5_used := by decide +kernel
  have lk12 := hts (.fieldLink RX5 12 "GraveRows" "ground" "LGraveRows$Ground;") (by decide +kernel)
  have lc125 := hts (.constant RX5 125 (-100006)) (by decide +kernel)
  have lc47 := hts (.constant RX5 47 (-100001)) (by decide +kernel)
  rw [f_X5_used] at h
  refine lv_iload_n hx hb dX5_used_0 rfl (lv_at hl 1 rfl) ?_
  refine callS_S (rest := []) C.1 (c_X5_isGood l x1) (va_cwS 1 hts gX5_used_X5_isGood rfl rfl rfl hd_X5_isGood ⟨Nat.le_of_ble_eq_true rfl, Nat.le_of_ble_eq_true rfl⟩) rfl hl.1 rfl (Nat.le_of_ble_eq_true rfl) dX5_used_1 ?_
  refine gen_b h (fun r_1 h => ?_)
  refine lv_if_ne (tgt := 14) hx hb dX5_used_4 (by decide) (fun c_2 => ?_) (fun c_2 => ?_)
  · replace h := (if_neg c_2).symm.trans h
    refine lv_aload_n hx hb dX5_used_14 rfl (lv_at hl 0 rfl) ?_
    refine w_get (v := .ref (ad 1)) C hinRX5 hI 0 at_C rfl 0 (by decide) lk12 rfl rfl dX5_used_15 ?_
    refine lv_iload_n hx hb dX5_used_18 rfl (lv_at hl 1 rfl) ?_
    obtain ⟨r_4, hr_3, h⟩ := bd1_some h
    refine callV_I (rest := []) C hI (c_X2_havers l g Y ad N x1 st hr_3) (cwV 1 hts gX5_used_X2_havers rfl rfl rfl hv_X2_havers ⟨Nat.le_of_ble_eq_true rfl, Nat.le_of_ble_eq_true rfl⟩) (w_recv C hI 1 at_G0 rfl) rfl hl.1 rfl (Nat.le_of_ble_eq_true rfl) dX5_used_19 (fun H locs hI => ?_)
    refine lv_istore_n (lv' := [(3, .int r_4), (0, .ref (ad 0)), (1, .int x1), (2, .int (b2i x2))]) hx hb dX5_used_22 rfl hl (by decide) rfl (fun ls hl => ?_)
    refine lv_iload_n hx hb dX5_used_23 rfl (lv_at hl 0 rfl) ?_
    refine lv_if_ne (tgt := 34) hx hb dX5_used_24 (by decide) (fun c_5 => ?_) (fun c_5 => ?_)
    · replace h := (if_neg c_5).symm.trans h
      refine lv_iload_n hx hb dX5_used_34 rfl (lv_at hl 3 rfl) ?_
      refine lv_if_eq (tgt := 49) hx hb dX5_used_35 (by decide) (fun c_6 => ?_) (fun c_6 => ?_)
      · replace h := (if_pos c_6).symm.trans h
        refine lv_aload_n hx hb dX5_used_49 rfl (lv_at hl 1 rfl) ?_
        refine w_get (v := .ref (ad 1)) C hinRX5 hI 0 at_C rfl 0 (by decide) lk12 rfl rfl dX5_used_50 ?_
        refine lv_iload_n hx hb dX5_used_53 rfl (lv_at hl 0 rfl) ?_
        obtain ⟨r_8, st_9, hr_7, h⟩ := bd2_some h
        refine callV_I (rest := []) C hI (c_X2_leastEarliest l g Y ad N r_4 st hr_7) (cwV 1 hts gX5_used_X2_leastEarliest rfl rfl rfl hv_X2_leastEarliest ⟨Nat.le_of_ble_eq_true rfl, Nat.le_of_ble_eq_true rfl⟩) (w_recv C hI 1 at_G0 rfl) rfl hl.1 rfl (Nat.le_of_ble_eq_true rfl) dX5_used_54 (fun H locs hI => ?_)
        obtain ⟨rfl, rfl⟩ := ret2 h
        exact hret H locs _ ls hI dX5_used_57
      · replace h := (if_neg c_6).symm.trans h
        refine lv_aload_n hx hb dX5_used_38 rfl (lv_at hl 1 rfl) ?_
        refine w_get (v := .ref (ad 1)) C hinRX5 hI 0 at_C rfl 0 (by decide) lk12 rfl rfl dX5_used_39 ?_
        refine lv_iload_n hx hb dX5_used_42 rfl (lv_at hl 0 rfl) ?_
        obtain ⟨r_11, st_12, hr_10, h⟩ := bd2_some h
        refine callV_I (rest := []) C hI (c_X2_greatestLatest l g Y ad N r_4 st hr_10) (cwV 1 hts gX5_used_X2_greatestLatest rfl rfl rfl hv_X2_greatestLatest ⟨Nat.le_of_ble_eq_true rfl, Nat.le_of_ble_eq_true rfl⟩) (w_recv C hI 1 at_G0 rfl) rfl hl.1 rfl (Nat.le_of_ble_eq_true rfl) dX5_used_43 (fun H locs hI => ?_)
        refine lv_goto (tgt := 57) hx hb dX5_used_46 (by decide) ?_
        obtain ⟨rfl, rfl⟩ := ret2 h
        exact hret H locs _ ls hI dX5_used_57
    · replace h := (if_pos c_5).symm.trans h
      refine lv_aload_n hx hb dX5_used_27 rfl (lv_at hl 1 rfl) ?_
      refine lv_ldc (v := (-100006)) hx hb hown lc125 dX5_used_28 ?_
      obtain ⟨r_14, st_15, hr_13, h⟩ := bd2_some h
      refine callV_I (rest := []) C hI (c_X5_finding l g Y ad (-100006 : Int32) st hr_13) (cwV 1 hts gX5_used_X5_finding rfl rfl rfl hv_X5_finding ⟨Nat.le_of_ble_eq_true rfl, Nat.le_of_ble_eq_true rfl⟩) (w_recv C hI 0 at_C rfl) rfl hl.1 rfl (Nat.le_of_ble_eq_true rfl) dX5_used_30 (fun H locs hI => ?_)
      obtain ⟨rfl, rfl⟩ := ret2 h
      exact hret H locs _ ls hI dX5_used_33
  · replace h := (if_pos c_2).symm.trans h
    refine lv_aload_n hx hb dX5_used_7 rfl (lv_at hl 0 rfl) ?_
    refine lv_ldc (v := (-100001)) hx hb hown lc47 dX5_used_8 ?_
    obtain ⟨r_17, st_18, hr_16, h⟩ := bd2_some h
    refine callV_I (rest := []) C hI (c_X5_finding l g Y ad (-100001 : Int32) st hr_16) (cwV 1 hts gX5_used_X5_finding rfl rfl rfl hv_X5_finding ⟨Nat.le_of_ble_eq_true rfl, Nat.le_of_ble_eq_true rfl⟩) (w_recv C hI 0 at_C rfl) rfl hl.1 rfl (Nat.le_of_ble_eq_true rfl) dX5_used_10 (fun H locs hI => ?_)
    obtain ⟨rfl, rfl⟩ := ret2 h
    exact hret H locs _ ls hI dX5_used_13
theorem hv_X5_used : yX5_used.cls = RX5 ∧ yX5_used.cls ≠ "java/lang/invoke/MethodHandle" ∧ yX5_used.cls ≠ "java/lang/invoke/VarHandle" ∧ (parseMethodDescriptor yX5_used.desc).map (fun d => d.parameters.length) = some 2 := by decide +kernel
/-! X5_family -/
def rmX5_family : Room := { frames := 4, cells := 0, slots := 0, locals := 94 }
def f_X5_family (N : Nat) (st : St) (x1 : Int32) (x2 : Int32) : Option (Int32 × St) := bnd (f_X2_holds st x1) fun r_1 => if b2i r_1 = 0 then bd2 (f_X5_finding st (-100001 : Int32)) fun r_4 st_5 => some (r_4, st_5) else bnd (f_X5_isDistance x2) fun r_6 => if b2i r_6 = 0 then bd2 (f_X5_finding st (-100001 : Int32)) fun r_12 st_13 => some (r_12, st_13) else bd2 (f_X2_familyOf N st x1 x2) fun r_9 st_10 => some (r_9, st_10)
set_option maxHeartbeats 4000000 in
set_option maxRecDepth 100000 in
theorem c_X5_family (l : Launch) (g : GP) (Y : va_W) (ad : Nat → Nat) (N : Nat) (x1 : Int32) (x2 : Int32)  (st : St) {r : Int32} {st' : St} (h : f_X5_family N st x1 x2 = some (r, st')) : MetI l yX5_family wsX5_family rmX5_family g (wCX g Y ad) [.ref (ad 0), .int x1, .int x2] st (r) st' := by
  refine metI_of (cc := cX5_family) (nL := 3) (ty := .int) (by decide) rfl (Nat.le_of_ble_eq_true rfl) rfl ?_
  intro p e s m below meth c Q A C hret H locs hI ls hl
  have C : Cx p s m _ c cX5_family 3 wsX5_family RX5 g A := C
  obtain ⟨hx, hb, hml, hown, hts⟩ := id C.1
  have hl : lv_has ls 3 [(0, .ref (ad 0)), (1, .int x1), (2, .int x2)] := hl
  have hinRX5 : ∀ w ∈ u_ws RX5 TX5 7, w ∈ wsX5_family := by decide +kernel
  have lk12 := hts (.fieldLink RX5 12 "GraveRows" "ground" "LGraveRows$Ground;") (by decide +kernel)
  have lc47 := hts (.constant RX5 47 (-100001)) (by decide +kernel)
  rw [f_X5_family] at h
  refine lv_aload_n hx hb dX5_family_0 rfl (lv_at hl 0 rfl) ?_
  refine w_get (v := .ref (ad 1)) C hinRX5 hI 0 at_C rfl 0 (by decide) lk12 rfl rfl dX5_family_1 ?_
  refine lv_iload_n hx hb dX5_family_4 rfl (lv_at hl 1 rfl) ?_
  refine callV_I (rest := []) C hI (c_X2_holds l g Y ad x1 st) (cwV 1 hts gX5_family_X2_holds rfl rfl rfl hv_X2_holds ⟨Nat.le_of_ble_eq_true rfl, Nat.le_of_ble_eq_true rfl⟩) (w_recv C hI 1 at_G0 rfl) rfl hl.1 rfl (Nat.le_of_ble_eq_true rfl) dX5_family_5 (fun H locs hI => ?_)
  refine gen_b h (fun r_1 h => ?_)
  refine lv_if_eq (tgt := 18) hx hb dX5_family_8 (by decide) (fun c_2 => ?_) (fun c_2 => ?_)
  · replace h := (if_pos c_2).symm.trans h
    refine lv_aload_n hx hb dX5_family_18 rfl (lv_at hl 0 rfl) ?_
    refine lv_ldc (v := (-100001)) hx hb hown lc47 dX5_family_19 ?_
    obtain ⟨r_4, st_5, hr_3, h⟩ := bd2_some h
    refine callV_I (rest := []) C hI (c_X5_finding l g Y ad (-100001 : Int32) st hr_3) (cwV 1 hts gX5_family_X5_finding rfl rfl rfl hv_X5_finding ⟨Nat.le_of_ble_eq_true rfl, Nat.le_of_ble_eq_true rfl⟩) (w_recv C hI 0 at_C rfl) rfl hl.1 rfl (Nat.le_of_ble_eq_true rfl) dX5_family_21 (fun H locs hI => ?_)
    obtain ⟨rfl, rfl⟩ := ret2 h
    exact hret H locs _ ls hI dX5_family_24
  · replace h := (if_neg c_2).symm.trans h
    refine lv_iload_n hx hb dX5_family_11 rfl (lv_at hl 2 rfl) ?_
    refine callS_S (rest := []) C.1 (c_X5_isDistance l x2) (va_cwS 1 hts gX5_family_X5_isDistance rfl rfl rfl hd_X5_isDistance ⟨Nat.le_of_ble_eq_true rfl, Nat.le_of_ble_eq_true rfl⟩) rfl hl.1 rfl (Nat.le_of_ble_eq_true rfl) dX5_family_12 ?_
    refine gen_b h (fun r_6 h => ?_)
    refine lv_if_ne (tgt := 25) hx hb dX5_family_15 (by decide) (fun c_7 => ?_) (fun c_7 => ?_)
    · replace h := (if_neg c_7).symm.trans h
      refine lv_aload_n hx hb dX5_family_25 rfl (lv_at hl 0 rfl) ?_
      refine w_get (v := .ref (ad 1)) C hinRX5 hI 0 at_C rfl 0 (by decide) lk12 rfl rfl dX5_family_26 ?_
      refine lv_iload_n hx hb dX5_family_29 rfl (lv_at hl 1 rfl) ?_
      refine lv_iload_n hx hb dX5_family_30 rfl (lv_at hl 2 rfl) ?_
      obtain ⟨r_9, st_10, hr_8, h⟩ := bd2_some h
      refine callV_I (rest := []) C hI (c_X2_familyOf l g Y ad N x1 x2 st hr_8) (cwV 2 hts gX5_family_X2_familyOf rfl rfl rfl hv_X2_familyOf ⟨Nat.le_of_ble_eq_true rfl, Nat.le_of_ble_eq_true rfl⟩) (w_recv C hI 1 at_G0 rfl) rfl hl.1 rfl (Nat.le_of_ble_eq_true rfl) dX5_family_31 (fun H locs hI => ?_)
      obtain ⟨rfl, rfl⟩ := ret2 h
      exact hret H locs _ ls hI dX5_family_34
    · replace h := (if_pos c_7).symm.trans h
      refine lv_aload_n hx hb dX5_family_18 rfl (lv_at hl 0 rfl) ?_
      refine lv_ldc (v := (-100001)) hx hb hown lc47 dX5_family_19 ?_
      obtain ⟨r_12, st_13, hr_11, h⟩ := bd2_some h
      refine callV_I (rest := []) C hI (c_X5_finding l g Y ad (-100001 : Int32) st hr_11) (cwV 1 hts gX5_family_X5_finding rfl rfl rfl hv_X5_finding ⟨Nat.le_of_ble_eq_true rfl, Nat.le_of_ble_eq_true rfl⟩) (w_recv C hI 0 at_C rfl) rfl hl.1 rfl (Nat.le_of_ble_eq_true rfl) dX5_family_21 (fun H locs hI => ?_)
      obtain ⟨rfl, rfl⟩ := ret2 h
      exact hret H locs _ ls hI dX5_family_24
theorem hv_X5_family : yX5_family.cls = RX5 ∧ yX5_family.cls ≠ "java/lang/invoke/MethodHandle" ∧ yX5_family.cls ≠ "java/lang/invoke/VarHandle" ∧ (parseMethodDescriptor yX5_family.desc).map (fun d => d.parameters.length) = some 2 := by decide +kernel
/-! X5_families -/
def rmX5_families : Room := { frames := 4, cells := 0, slots := 0, locals := 94 }
def f_X5_families_L18 (N : Nat) (x1 : Int32) (k : Int32 → Int32 → St → Option (Int32 × St)) : Nat → Int32 → Int32 → St → Option (Int32 × St)
  | 0, _, _, _ => none
  | n + 1, x2, x3, st => if st 13 0 ≤ x3 then k x2 x3 st else bd2 (f_X2_familyOf N st x3 x1) fun r_5 st_6 => if r_5 = x3 then f_X5_families_L18 N x1 k n (x2 + 1) (x3 + 1) st_6 else f_X5_families_L18 N x1 k n x2 (x3 + 1) st_6
def f_X5_families (N : Nat) (st : St) (x1 : Int32) : Option (Int32 × St) := bnd (f_X5_isDistance x1) fun r_1 => if b2i r_1 = 0 then bd2 (f_X5_finding st (-100001 : Int32)) fun r_12 st_13 => some (r_12, st_13) else f_X5_families_L18 N x1 (fun a_8 a_9 st_10 => some (a_8, st_10)) N 0 0 st
set_option maxHeartbeats 4000000 in
set_option maxRecDepth 100000 in
theorem wl_X5_families_L18 {p : Program} {l : Launch} {e : Env} {s : State} {m : MethodId} {args : Array Value} {below : List Frame} {meth : Method} {c : Code} {Q : State → Prop} {A : Nat → Prop} {g : GP} {Y : va_W} {ad : Nat → Nat} {r : Int32} {st' : St} (C : Cx p s m args c cX5_families 4 wsX5_families RX5 g A) (hret : RetI p l e rmX5_families s m args below meth c Q cX5_families g A (wCX g Y ad st') (r)) (N : Nat) (x1 : Int32)  (k : Int32 → Int32 → St → Option (Int32 × St)) (hk : ∀ (x2 : Int32) (x3 : Int32) (st : St) (H : Heap) (locs : List Loc) (ls : Array Slot), k x2 x3 st = some (r, st') → IW g A s.heap (wCX g Y ad st) H locs → lv_has ls 4 [(0, .ref (ad 0)), (1, .int x1), (2, .int x2), (3, .int x3)] → W p l e rmX5_families s m args below meth c H locs 0 0 Q (F0 m 51 ls [])) : ∀ (n : Nat) (x2 : Int32) (x3 : Int32) (st : St) (H : Heap) (locs : List Loc) (ls : Array Slot), f_X5_families_L18 N x1 k n x2 x3 st = some (r, st') → IW g A s.heap (wCX g Y ad st) H locs → lv_has ls 4 [(0, .ref (ad 0)), (1, .int x1), (2, .int x2), (3, .int x3)] → W p l e rmX5_families s m args below meth c H locs 0 0 Q (F0 m 18 ls []) := by
  obtain ⟨hx, hb, hml, hown, hts⟩ := id C.1
  have hinRX5 : ∀ w ∈ u_ws RX5 TX5 7, w ∈ wsX5_families := by decide +kernel
  have lk12 := hts (.fieldLink RX5 12 "GraveRows" "ground" "LGraveRows$Ground;") (by decide +kernel)
  have hinRX2 : ∀ w ∈ u_ws RX2 TX2 7, w ∈ wsX5_families := by decide +kernel
  have lk52 := hts (.fieldLink RX5 52 "GraveRows$Ground" "size" "I") (by decide +kernel)
  intro n
  induction n with
  | zero =>
    intro x2 x3 st H locs ls h hI hl
    rw [f_X5_families_L18] at h
    cases h
  | succ n ih =>
    intro x2 x3 st H locs ls h hI hl
    rw [f_X5_families_L18] at h
    refine lv_iload_n hx hb dX5_families_18 rfl (lv_at hl 3 rfl) ?_
    refine lv_aload_n hx hb dX5_families_19 rfl (lv_at hl 0 rfl) ?_
    refine w_get (v := .ref (ad 1)) C hinRX5 hI 0 at_C rfl 0 (by decide) lk12 rfl rfl dX5_families_20 ?_
    refine w_get (v := .int (st 13 0)) C hinRX2 hI 1 at_G0 rfl 5 (by decide) lk52 rfl rfl dX5_families_23 ?_
    refine lv_icmp_ge (tgt := 51) hx hb dX5_families_26 (by decide) (fun c_3 => ?_) (fun c_3 => ?_)
    · replace h := (if_pos c_3).symm.trans h
      exact hk _ _ _ _ _ _ h hI (lv_sub hl [0, 1, 2, 3] rfl)
    · replace h := (if_neg c_3).symm.trans h
      refine lv_aload_n hx hb dX5_families_29 rfl (lv_at hl 0 rfl) ?_
      refine w_get (v := .ref (ad 1)) C hinRX5 hI 0 at_C rfl 0 (by decide) lk12 rfl rfl dX5_families_30 ?_
      refine lv_iload_n hx hb dX5_families_33 rfl (lv_at hl 3 rfl) ?_
      refine lv_iload_n hx hb dX5_families_34 rfl (lv_at hl 1 rfl) ?_
      obtain ⟨r_5, st_6, hr_4, h⟩ := bd2_some h
      refine callV_I (rest := []) C hI (c_X2_familyOf l g Y ad N x3 x1 st hr_4) (cwV 2 hts gX5_families_X2_familyOf rfl rfl rfl hv_X2_familyOf ⟨Nat.le_of_ble_eq_true rfl, Nat.le_of_ble_eq_true rfl⟩) (w_recv C hI 1 at_G0 rfl) rfl hl.1 rfl (Nat.le_of_ble_eq_true rfl) dX5_families_35 (fun H locs hI => ?_)
      refine lv_iload_n hx hb dX5_families_38 rfl (lv_at hl 3 rfl) ?_
      refine lv_icmp_ne (tgt := 45) hx hb dX5_families_39 (by decide) (fun c_7 => ?_) (fun c_7 => ?_)
      · replace h := (if_neg c_7).symm.trans h
        refine lv_iinc (v := x3 + 1) (lv' := [(3, .int (x3 + 1)), (0, .ref (ad 0)), (1, .int x1), (2, .int x2)]) hx hb dX5_families_45 hl (k := 3) rfl rfl (by decide) rfl (fun ls hl => ?_)
        refine lv_goto (tgt := 18) hx hb dX5_families_48 (by decide) ?_
        exact ih _ _ _ _ _ _ h hI (lv_sub hl [1, 2, 3, 0] rfl)
      · replace h := (if_pos c_7).symm.trans h
        refine lv_iinc (v := x2 + 1) (lv' := [(2, .int (x2 + 1)), (0, .ref (ad 0)), (1, .int x1), (3, .int x3)]) hx hb dX5_families_42 hl (k := 2) rfl rfl (by decide) rfl (fun ls hl => ?_)
        refine lv_iinc (v := x3 + 1) (lv' := [(3, .int (x3 + 1)), (2, .int (x2 + 1)), (0, .ref (ad 0)), (1, .int x1)]) hx hb dX5_families_45 hl (k := 3) rfl rfl (by decide) rfl (fun ls hl => ?_)
        refine lv_goto (tgt := 18) hx hb dX5_families_48 (by decide) ?_
        exact ih _ _ _ _ _ _ h hI (lv_sub hl [2, 3, 1, 0] rfl)
set_option maxHeartbeats 4000000 in
set_option maxRecDepth 100000 in
theorem c_X5_families (l : Launch) (g : GP) (Y : va_W) (ad : Nat → Nat) (N : Nat) (x1 : Int32)  (st : St) {r : Int32} {st' : St} (h : f_X5_families N st x1 = some (r, st')) : MetI l yX5_families wsX5_families rmX5_families g (wCX g Y ad) [.ref (ad 0), .int x1] st (r) st' := by
  refine metI_of (cc := cX5_families) (nL := 4) (ty := .int) (by decide) rfl (Nat.le_of_ble_eq_true rfl) rfl ?_
  intro p e s m below meth c Q A C hret H locs hI ls hl
  have C : Cx p s m _ c cX5_families 4 wsX5_families RX5 g A := C
  obtain ⟨hx, hb, hml, hown, hts⟩ := id C.1
  have hl : lv_has ls 4 [(0, .ref (ad 0)), (1, .int x1)] := hl
  have lc47 := hts (.constant RX5 47 (-100001)) (by decide +kernel)
  rw [f_X5_families] at h
  refine lv_iload_n hx hb dX5_families_0 rfl (lv_at hl 1 rfl) ?_
  refine callS_S (rest := []) C.1 (c_X5_isDistance l x1) (va_cwS 1 hts gX5_families_X5_isDistance rfl rfl rfl hd_X5_isDistance ⟨Nat.le_of_ble_eq_true rfl, Nat.le_of_ble_eq_true rfl⟩) rfl hl.1 rfl (Nat.le_of_ble_eq_true rfl) dX5_families_1 ?_
  refine gen_b h (fun r_1 h => ?_)
  refine lv_if_ne (tgt := 14) hx hb dX5_families_4 (by decide) (fun c_2 => ?_) (fun c_2 => ?_)
  · replace h := (if_neg c_2).symm.trans h
    refine lv_iconst (v := 0) hx hb dX5_families_14 (by decide) ?_
    refine lv_istore_n (lv' := [(2, .int 0), (0, .ref (ad 0)), (1, .int x1)]) hx hb dX5_families_15 rfl hl (by decide) rfl (fun ls hl => ?_)
    refine lv_iconst (v := 0) hx hb dX5_families_16 (by decide) ?_
    refine lv_istore_n (lv' := [(3, .int 0), (2, .int 0), (0, .ref (ad 0)), (1, .int x1)]) hx hb dX5_families_17 rfl hl (by decide) rfl (fun ls hl => ?_)
    refine wl_X5_families_L18 C hret N x1 _ (fun a_8 a_9 st_10 H locs ls h hI hl => ?_) N 0 0 st H locs ls h hI (lv_sub hl [2, 3, 1, 0] rfl)
    refine lv_iload_n hx hb dX5_families_51 rfl (lv_at hl 2 rfl) ?_
    obtain ⟨rfl, rfl⟩ := ret2 h
    exact hret H locs _ ls hI dX5_families_52
  · replace h := (if_pos c_2).symm.trans h
    refine lv_aload_n hx hb dX5_families_7 rfl (lv_at hl 0 rfl) ?_
    refine lv_ldc (v := (-100001)) hx hb hown lc47 dX5_families_8 ?_
    obtain ⟨r_12, st_13, hr_11, h⟩ := bd2_some h
    refine callV_I (rest := []) C hI (c_X5_finding l g Y ad (-100001 : Int32) st hr_11) (cwV 1 hts gX5_families_X5_finding rfl rfl rfl hv_X5_finding ⟨Nat.le_of_ble_eq_true rfl, Nat.le_of_ble_eq_true rfl⟩) (w_recv C hI 0 at_C rfl) rfl hl.1 rfl (Nat.le_of_ble_eq_true rfl) dX5_families_10 (fun H locs hI => ?_)
    obtain ⟨rfl, rfl⟩ := ret2 h
    exact hret H locs _ ls hI dX5_families_13
theorem hv_X5_families : yX5_families.cls = RX5 ∧ yX5_families.cls ≠ "java/lang/invoke/MethodHandle" ∧ yX5_families.cls ≠ "java/lang/invoke/VarHandle" ∧ (parseMethodDescriptor yX5_families.desc).map (fun d => d.parameters.length) = some 1 := by decide +kernel
