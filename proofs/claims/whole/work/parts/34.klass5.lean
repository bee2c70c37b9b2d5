/-! X5_finding -/
def rmX5_finding : Room := { frames := 0, cells := 0, slots := 0, locals := 0 }
def f_X5_finding (st : St) (x1 : Int32) : Option (Int32 × St) := bnd (sU st 51 1 ((st 51 1) + 1)) fun st_1 => some (x1, st_1)
set_option maxHeartbeats 4000000 in
set_option maxRecDepth 100000 in
theorem c_X5_finding (l : Launch) (g : GP) (Y : va_W) (ad : Nat → Nat) (x1 : Int32)  (st : St) {r : Int32} {st' : St} (h : f_X5_finding st x1 = some (r, st')) : MetI l yX5_finding wsX5_finding rmX5_finding g (wCX g Y ad) [.ref (ad 0), .int x1] st (r) st' := by
  refine metI_of (cc := cX5_finding) (nL := 2) (ty := .int) (by decide) rfl (Nat.le_of_ble_eq_true rfl) rfl ?_
  intro p e s m below meth c Q A C hret H locs hI ls hl
  have C : Cx p s m _ c cX5_finding 2 wsX5_finding RX5 g A := C
  obtain ⟨hx, hb, hml, hown, hts⟩ := id C.1
  have hl : lv_has ls 2 [(0, .ref (ad 0)), (1, .int x1)] := hl
  have hinRX5 : ∀ w ∈ u_ws RX5 TX5 7, w ∈ wsX5_finding := by decide +kernel
  have lk282 := hts (.fieldLink RX5 282 "GraveRows" "findings" "I") (by decide +kernel)
  rw [f_X5_finding] at h
  refine lv_aload_n hx hb dX5_finding_0 rfl (lv_at hl 0 rfl) ?_
  refine lv_dup hx hb dX5_finding_1 rfl ?_
  refine w_get (v := .int (st 51 1)) C hinRX5 hI 0 at_C rfl 6 (by decide) lk282 rfl rfl dX5_finding_2 ?_
  refine lv_iconst (v := 1) hx hb dX5_finding_5 (by decide) ?_
  refine lv_iadd hx hb dX5_finding_6 ?_
  refine w_put C hinRX5 tyX5 tyX5_ok nmX5 hI 0 at_C rfl 6 h st_C_findings (by decide) (Nat.le_of_ble_eq_true rfl) lk282 ⟨rfl, rfl⟩ rfl rfl dX5_finding_7 (fun st_1 H locs h hI => ?_)
  refine lv_iload_n hx hb dX5_finding_10 rfl (lv_at hl 1 rfl) ?_
  obtain ⟨rfl, rfl⟩ := ret2 h
  exact hret H locs _ ls hI dX5_finding_11
theorem hv_X5_finding : yX5_finding.cls = RX5 ∧ yX5_finding.cls ≠ "java/lang/invoke/MethodHandle" ∧ yX5_finding.cls ≠ "java/lang/invoke/VarHandle" ∧ (parseMethodDescriptor yX5_finding.desc).map (fun d => d.parameters.length) = some 1 := by decide +kernel
/-! X5_grave -/
def rmX5_grave : Room := { frames := 2, cells := 0, slots := 0, locals := 46 }
def f_X5_grave (st : St) (x1 : Int32) (x2 : Int32) (x3 : Int32) : Option (Int32 × St) := bnd (f_X5_isKind x1) fun r_1 => if b2i r_1 = 0 then bd2 (f_X5_finding st (-100001 : Int32)) fun r_4 st_5 => some (r_4, st_5) else bnd (f_X5_isDistance x2) fun r_6 => if b2i r_6 = 0 then bd2 (f_X5_finding st (-100001 : Int32)) fun r_9 st_10 => some (r_9, st_10) else bnd (f_X5_isDistance x3) fun r_11 => if b2i r_11 = 0 then bd2 (f_X5_finding st (-100001 : Int32)) fun r_21 st_22 => some (r_21, st_22) else if st 13 0 < 10 then bd2 (f_X2_open st x1 x2 x3) fun r_15 st_16 => some (r_15, st_16) else bd2 (f_X5_finding st (-100005 : Int32)) fun r_18 st_19 => some (r_18, st_19)
set_option maxHeartbeats 4000000 in
set_option maxRecDepth 100000 in
theorem c_X5_grave (l : Launch) (g : GP) (Y : va_W) (ad : Nat → Nat) (x1 : Int32) (x2 : Int32) (x3 : Int32)  (st : St) {r : Int32} {st' : St} (h : f_X5_grave st x1 x2 x3 = some (r, st')) : MetI l yX5_grave wsX5_grave rmX5_grave g (wCX g Y ad) [.ref (ad 0), .int x1, .int x2, .int x3] st (r) st' := by
  refine metI_of (cc := cX5_grave) (nL := 4) (ty := .int) (by decide) rfl (Nat.le_of_ble_eq_true rfl) rfl ?_
  intro p e s m below meth c Q A C hret H locs hI ls hl
  have C : Cx p s m _ c cX5_grave 4 wsX5_grave RX5 g A := C
  obtain ⟨hx, hb, hml, hown, hts⟩ := id C.1
  have hl : lv_has ls 4 [(0, .ref (ad 0)), (1, .int x1), (2, .int x2), (3, .int x3)] := hl
  have lc47 := hts (.constant RX5 47 (-100001)) (by decide +kernel)
  have hinRX5 : ∀ w ∈ u_ws RX5 TX5 7, w ∈ wsX5_grave := by decide +kernel
  have lk12 := hts (.fieldLink RX5 12 "GraveRows" "ground" "LGraveRows$Ground;") (by decide +kernel)
  have hinRX2 : ∀ w ∈ u_ws RX2 TX2 7, w ∈ wsX5_grave := by decide +kernel
  have lk52 := hts (.fieldLink RX5 52 "GraveRows$Ground" "size" "I") (by decide +kernel)
  have lc56 := hts (.constant RX5 56 (-100005)) (by decide +kernel)
  rw [f_X5_grave] at h
  refine lv_iload_n hx hb dX5_grave_0 rfl (lv_at hl 1 rfl) ?_
  refine callS_S (rest := []) C.1 (c_X5_isKind l x1) (va_cwS 1 hts gX5_grave_X5_isKind rfl rfl rfl hd_X5_isKind ⟨Nat.le_of_ble_eq_true rfl, Nat.le_of_ble_eq_true rfl⟩) rfl hl.1 rfl (Nat.le_of_ble_eq_true rfl) dX5_grave_1 ?_
  refine gen_b h (fun r_1 h => ?_)
  refine lv_if_eq (tgt := 21) hx hb dX5_grave_4 (by decide) (fun c_2 => ?_) (fun c_2 => ?_)
  · replace h := (if_pos c_2).symm.trans h
    refine lv_aload_n hx hb dX5_grave_21 rfl (lv_at hl 0 rfl) ?_
    refine lv_ldc (v := (-100001)) hx hb hown lc47 dX5_grave_22 ?_
    obtain ⟨r_4, st_5, hr_3, h⟩ := bd2_some h
    refine callV_I (rest := []) C hI (c_X5_finding l g Y ad (-100001 : Int32) st hr_3) (cwV 1 hts gX5_grave_X5_finding rfl rfl rfl hv_X5_finding ⟨Nat.le_of_ble_eq_true rfl, Nat.le_of_ble_eq_true rfl⟩) (w_recv C hI 0 at_C rfl) rfl hl.1 rfl (Nat.le_of_ble_eq_true rfl) dX5_grave_24 (fun H locs hI => ?_)
    obtain ⟨rfl, rfl⟩ := ret2 h
    exact hret H locs _ ls hI dX5_grave_27
  · replace h := (if_neg c_2).symm.trans h
    refine lv_iload_n hx hb dX5_grave_7 rfl (lv_at hl 2 rfl) ?_
    refine callS_S (rest := []) C.1 (c_X5_isDistance l x2) (va_cwS 1 hts gX5_grave_X5_isDistance rfl rfl rfl hd_X5_isDistance ⟨Nat.le_of_ble_eq_true rfl, Nat.le_of_ble_eq_true rfl⟩) rfl hl.1 rfl (Nat.le_of_ble_eq_true rfl) dX5_grave_8 ?_
    refine gen_b h (fun r_6 h => ?_)
    refine lv_if_eq (tgt := 21) hx hb dX5_grave_11 (by decide) (fun c_7 => ?_) (fun c_7 => ?_)
    · replace h := (if_pos c_7).symm.trans h
      refine lv_aload_n hx hb dX5_grave_21 rfl (lv_at hl 0 rfl) ?_
      refine lv_ldc (v := (-100001)) hx hb hown lc47 dX5_grave_22 ?_
      obtain ⟨r_9, st_10, hr_8, h⟩ := bd2_some h
      refine callV_I (rest := []) C hI (c_X5_finding l g Y ad (-100001 : Int32) st hr_8) (cwV 1 hts gX5_grave_X5_finding rfl rfl rfl hv_X5_finding ⟨Nat.le_of_ble_eq_true rfl, Nat.le_of_ble_eq_true rfl⟩) (w_recv C hI 0 at_C rfl) rfl hl.1 rfl (Nat.le_of_ble_eq_true rfl) dX5_grave_24 (fun H locs hI => ?_)
      obtain ⟨rfl, rfl⟩ := ret2 h
      exact hret H locs _ ls hI dX5_grave_27
    · replace h := (if_neg c_7).symm.trans h
      refine lv_iload_n hx hb dX5_grave_14 rfl (lv_at hl 3 rfl) ?_
      refine callS_S (rest := []) C.1 (c_X5_isDistance l x3) (va_cwS 1 hts gX5_grave_X5_isDistance rfl rfl rfl hd_X5_isDistance ⟨Nat.le_of_ble_eq_true rfl, Nat.le_of_ble_eq_true rfl⟩) rfl hl.1 rfl (Nat.le_of_ble_eq_true rfl) dX5_grave_15 ?_
      refine gen_b h (fun r_11 h => ?_)
      refine lv_if_ne (tgt := 28) hx hb dX5_grave_18 (by decide) (fun c_12 => ?_) (fun c_12 => ?_)
      · replace h := (if_neg c_12).symm.trans h
        refine lv_aload_n hx hb dX5_grave_28 rfl (lv_at hl 0 rfl) ?_
        refine w_get (v := .ref (ad 1)) C hinRX5 hI 0 at_C rfl 0 (by decide) lk12 rfl rfl dX5_grave_29 ?_
        refine w_get (v := .int (st 13 0)) C hinRX2 hI 1 at_G0 rfl 5 (by decide) lk52 rfl rfl dX5_grave_32 ?_
        refine lv_bipush (v := 10) hx hb dX5_grave_35 (by decide) ?_
        refine lv_icmp_lt (tgt := 47) hx hb dX5_grave_37 (by decide) (fun c_13 => ?_) (fun c_13 => ?_)
        · replace h := (if_pos c_13).symm.trans h
          refine lv_aload_n hx hb dX5_grave_47 rfl (lv_at hl 0 rfl) ?_
          refine w_get (v := .ref (ad 1)) C hinRX5 hI 0 at_C rfl 0 (by decide) lk12 rfl rfl dX5_grave_48 ?_
          refine lv_iload_n hx hb dX5_grave_51 rfl (lv_at hl 1 rfl) ?_
          refine lv_iload_n hx hb dX5_grave_52 rfl (lv_at hl 2 rfl) ?_
          refine lv_iload_n hx hb dX5_grave_53 rfl (lv_at hl 3 rfl) ?_
          obtain ⟨r_15, st_16, hr_14, h⟩ := bd2_some h
          refine callV_I (rest := []) C hI (c_X2_open l g Y ad x1 x2 x3 st hr_14) (cwV 3 hts gX5_grave_X2_open rfl rfl rfl hv_X2_open ⟨Nat.le_of_ble_eq_true rfl, Nat.le_of_ble_eq_true rfl⟩) (w_recv C hI 1 at_G0 rfl) rfl hl.1 rfl (Nat.le_of_ble_eq_true rfl) dX5_grave_54 (fun H locs hI => ?_)
          obtain ⟨rfl, rfl⟩ := ret2 h
          exact hret H locs _ ls hI dX5_grave_57
        · replace h := (if_neg c_13).symm.trans h
          refine lv_aload_n hx hb dX5_grave_40 rfl (lv_at hl 0 rfl) ?_
          refine lv_ldc (v := (-100005)) hx hb hown lc56 dX5_grave_41 ?_
          obtain ⟨r_18, st_19, hr_17, h⟩ := bd2_some h
          refine callV_I (rest := []) C hI (c_X5_finding l g Y ad (-100005 : Int32) st hr_17) (cwV 1 hts gX5_grave_X5_finding rfl rfl rfl hv_X5_finding ⟨Nat.le_of_ble_eq_true rfl, Nat.le_of_ble_eq_true rfl⟩) (w_recv C hI 0 at_C rfl) rfl hl.1 rfl (Nat.le_of_ble_eq_true rfl) dX5_grave_43 (fun H locs hI => ?_)
          obtain ⟨rfl, rfl⟩ := ret2 h
          exact hret H locs _ ls hI dX5_grave_46
      · replace h := (if_pos c_12).symm.trans h
        refine lv_aload_n hx hb dX5_grave_21 rfl (lv_at hl 0 rfl) ?_
        refine lv_ldc (v := (-100001)) hx hb hown lc47 dX5_grave_22 ?_
        obtain ⟨r_21, st_22, hr_20, h⟩ := bd2_some h
        refine callV_I (rest := []) C hI (c_X5_finding l g Y ad (-100001 : Int32) st hr_20) (cwV 1 hts gX5_grave_X5_finding rfl rfl rfl hv_X5_finding ⟨Nat.le_of_ble_eq_true rfl, Nat.le_of_ble_eq_true rfl⟩) (w_recv C hI 0 at_C rfl) rfl hl.1 rfl (Nat.le_of_ble_eq_true rfl) dX5_grave_24 (fun H locs hI => ?_)
        obtain ⟨rfl, rfl⟩ := ret2 h
        exact hret H locs _ ls hI dX5_grave_27
theorem hv_X5_grave : yX5_grave.cls = RX5 ∧ yX5_grave.cls ≠ "java/lang/invoke/MethodHandle" ∧ yX5_grave.cls ≠ "java/lang/invoke/VarHandle" ∧ (parseMethodDescriptor yX5_grave.desc).map (fun d => d.parameters.length) = some 3 := by decide +kernel
/-! X5_as -/
def rmX5_as : Room := { frames := 1, cells := 0, slots := 0, locals := 23 }
def f_X5_as (N : Nat) (st : St) (x1 : Int32) (x2 : Int32) : Option (Int32 × St) := bnd (f_X2_holds st x1) fun r_1 => if b2i r_1 = 0 then bd2 (f_X5_finding st (-100001 : Int32)) fun r_4 st_5 => some (r_4, st_5) else bnd (f_X5_isKind x2) fun r_6 => if b2i r_6 = 0 then bd2 (f_X5_finding st (-100001 : Int32)) fun r_16 st_17 => some (r_16, st_17) else ck 10 x1 fun j_8 => bd1 (f_X1_isOfKind N st j_8 x2) fun r_10 => if b2i r_10 = 0 then bd2 (f_X5_finding st (-100004 : Int32)) fun r_13 st_14 => some (r_13, st_14) else some (x1, st)
set_option maxHeartbeats 4000000 in
set_option maxRecDepth 100000 in
theorem c_X5_as (l : Launch) (g : GP) (Y : va_W) (ad : Nat → Nat) (N : Nat) (x1 : Int32) (x2 : Int32)  (st : St) {r : Int32} {st' : St} (h : f_X5_as N st x1 x2 = some (r, st')) : MetI l yX5_as wsX5_as rmX5_as g (wCX g Y ad) [.ref (ad 0), .int x1, .int x2] st (r) st' := by
  refine metI_of (cc := cX5_as) (nL := 3) (ty := .int) (by decide) rfl (Nat.le_of_ble_eq_true rfl) rfl ?_
  intro p e s m below meth c Q A C hret H locs hI ls hl
  have C : Cx p s m _ c cX5_as 3 wsX5_as RX5 g A := C
  obtain ⟨hx, hb, hml, hown, hts⟩ := id C.1
  have hl : lv_has ls 3 [(0, .ref (ad 0)), (1, .int x1), (2, .int x2)] := hl
  have hinRX5 : ∀ w ∈ u_ws RX5 TX5 7, w ∈ wsX5_as := by decide +kernel
  have lk12 := hts (.fieldLink RX5 12 "GraveRows" "ground" "LGraveRows$Ground;") (by decide +kernel)
  have lc47 := hts (.constant RX5 47 (-100001)) (by decide +kernel)
  have hinRX2 : ∀ w ∈ u_ws RX2 TX2 7, w ∈ wsX5_as := by decide +kernel
  have lk64 := hts (.fieldLink RX5 64 "GraveRows$Ground" "graves" "[LGraveRows$Grave;") (by decide +kernel)
  have lc73 := hts (.constant RX5 73 (-100004)) (by decide +kernel)
  rw [f_X5_as] at h
  refine lv_aload_n hx hb dX5_as_0 rfl (lv_at hl 0 rfl) ?_
  refine w_get (v := .ref (ad 1)) C hinRX5 hI 0 at_C rfl 0 (by decide) lk12 rfl rfl dX5_as_1 ?_
  refine lv_iload_n hx hb dX5_as_4 rfl (lv_at hl 1 rfl) ?_
  refine callV_I (rest := []) C hI (c_X2_holds l g Y ad x1 st) (cwV 1 hts gX5_as_X2_holds rfl rfl rfl hv_X2_holds ⟨Nat.le_of_ble_eq_true rfl, Nat.le_of_ble_eq_true rfl⟩) (w_recv C hI 1 at_G0 rfl) rfl hl.1 rfl (Nat.le_of_ble_eq_true rfl) dX5_as_5 (fun H locs hI => ?_)
  refine gen_b h (fun r_1 h => ?_)
  refine lv_if_eq (tgt := 18) hx hb dX5_as_8 (by decide) (fun c_2 => ?_) (fun c_2 => ?_)
  · replace h := (if_pos c_2).symm.trans h
    refine lv_aload_n hx hb dX5_as_18 rfl (lv_at hl 0 rfl) ?_
    refine lv_ldc (v := (-100001)) hx hb hown lc47 dX5_as_19 ?_
    obtain ⟨r_4, st_5, hr_3, h⟩ := bd2_some h
    refine callV_I (rest := []) C hI (c_X5_finding l g Y ad (-100001 : Int32) st hr_3) (cwV 1 hts gX5_as_X5_finding rfl rfl rfl hv_X5_finding ⟨Nat.le_of_ble_eq_true rfl, Nat.le_of_ble_eq_true rfl⟩) (w_recv C hI 0 at_C rfl) rfl hl.1 rfl (Nat.le_of_ble_eq_true rfl) dX5_as_21 (fun H locs hI => ?_)
    obtain ⟨rfl, rfl⟩ := ret2 h
    exact hret H locs _ ls hI dX5_as_24
  · replace h := (if_neg c_2).symm.trans h
    refine lv_iload_n hx hb dX5_as_11 rfl (lv_at hl 2 rfl) ?_
    refine callS_S (rest := []) C.1 (c_X5_isKind l x2) (va_cwS 1 hts gX5_as_X5_isKind rfl rfl rfl hd_X5_isKind ⟨Nat.le_of_ble_eq_true rfl, Nat.le_of_ble_eq_true rfl⟩) rfl hl.1 rfl (Nat.le_of_ble_eq_true rfl) dX5_as_12 ?_
    refine gen_b h (fun r_6 h => ?_)
    refine lv_if_ne (tgt := 25) hx hb dX5_as_15 (by decide) (fun c_7 => ?_) (fun c_7 => ?_)
    · replace h := (if_neg c_7).symm.trans h
      refine lv_aload_n hx hb dX5_as_25 rfl (lv_at hl 0 rfl) ?_
      refine w_get (v := .ref (ad 1)) C hinRX5 hI 0 at_C rfl 0 (by decide) lk12 rfl rfl dX5_as_26 ?_
      refine w_get (v := .ref (ad 2)) C hinRX2 hI 1 at_G0 rfl 0 (by decide) lk64 rfl rfl dX5_as_29 ?_
      refine lv_iload_n hx hb dX5_as_32 rfl (lv_at hl 1 rfl) ?_
      refine w_ald (t0 := 2) (fa := fun j => ad (7 + j)) C hI 2 ra_2 rfl (fun _ => rfl) h dX5_as_33 (fun j_8 hj_8 h => ?_)
      refine lv_iload_n hx hb dX5_as_34 rfl (lv_at hl 2 rfl) ?_
      obtain ⟨r_10, hr_9, h⟩ := bd1_some h
      refine callV_I (rest := []) C hI (c_X1_isOfKind l g Y ad N j_8 x2 hj_8 st hr_9) (cwV 1 hts gX5_as_X1_isOfKind rfl rfl rfl hv_X1_isOfKind ⟨Nat.le_of_ble_eq_true rfl, Nat.le_of_ble_eq_true rfl⟩) (w_recv C hI (7 + j_8) (at_V0 hj_8) rfl) rfl hl.1 rfl (Nat.le_of_ble_eq_true rfl) dX5_as_35 (fun H locs hI => ?_)
      refine lv_if_ne (tgt := 48) hx hb dX5_as_38 (by decide) (fun c_11 => ?_) (fun c_11 => ?_)
      · replace h := (if_neg c_11).symm.trans h
        refine lv_iload_n hx hb dX5_as_48 rfl (lv_at hl 1 rfl) ?_
        obtain ⟨rfl, rfl⟩ := ret2 h
        exact hret H locs _ ls hI dX5_as_49
      · replace h := (if_pos c_11).symm.trans h
        refine lv_aload_n hx hb dX5_as_41 rfl (lv_at hl 0 rfl) ?_
        refine lv_ldc (v := (-100004)) hx hb hown lc73 dX5_as_42 ?_
        obtain ⟨r_13, st_14, hr_12, h⟩ := bd2_some h
        refine callV_I (rest := []) C hI (c_X5_finding l g Y ad (-100004 : Int32) st hr_12) (cwV 1 hts gX5_as_X5_finding rfl rfl rfl hv_X5_finding ⟨Nat.le_of_ble_eq_true rfl, Nat.le_of_ble_eq_true rfl⟩) (w_recv C hI 0 at_C rfl) rfl hl.1 rfl (Nat.le_of_ble_eq_true rfl) dX5_as_44 (fun H locs hI => ?_)
        obtain ⟨rfl, rfl⟩ := ret2 h
        exact hret H locs _ ls hI dX5_as_47
    · replace h := (if_pos c_7).symm.trans h
      refine lv_aload_n hx hb dX5_as_18 rfl (lv_at hl 0 rfl) ?_
      refine lv_ldc (v := (-100001)) hx hb hown lc47 dX5_as_19 ?_
      obtain ⟨r_16, st_17, hr_15, h⟩ := bd2_some h
      refine callV_I (rest := []) C hI (c_X5_finding l g Y ad (-100001 : Int32) st hr_15) (cwV 1 hts gX5_as_X5_finding rfl rfl rfl hv_X5_finding ⟨Nat.le_of_ble_eq_true rfl, Nat.le_of_ble_eq_true rfl⟩) (w_recv C hI 0 at_C rfl) rfl hl.1 rfl (Nat.le_of_ble_eq_true rfl) dX5_as_21 (fun H locs hI => ?_)
      obtain ⟨rfl, rfl⟩ := ret2 h
      exact hret H locs _ ls hI dX5_as_24
theorem hv_X5_as : yX5_as.cls = RX5 ∧ yX5_as.cls ≠ "java/lang/invoke/MethodHandle" ∧ yX5_as.cls ≠ "java/lang/invoke/VarHandle" ∧ (parseMethodDescriptor yX5_as.desc).map (fun d => d.parameters.length) = some 2 := by decide +kernel
/-! X5_goods -/
def rmX5_goods : Room := { frames := 1, cells := 0, slots := 0, locals := 21 }
def f_X5_goods (st : St) (x1 : Int32) (x2 : Int32) : Option (Int32 × St) := bnd (f_X2_holds st x1) fun r_1 => if b2i r_1 = 0 then bd2 (f_X5_finding st (-100001 : Int32)) fun r_4 st_5 => some (r_4, st_5) else if x2 < 0 then bd2 (f_X5_finding st (-100001 : Int32)) fun r_8 st_9 => some (r_8, st_9) else if x2 ≤ 4095 then ck 10 x1 fun j_11 => bnd (st 3 j_11) fun v_12 => ck 10 x1 fun j_13 => bnd (sU st 3 j_13 x2) fun st_14 => some (v_12, st_14) else bd2 (f_X5_finding st (-100001 : Int32)) fun r_16 st_17 => some (r_16, st_17)
set_option maxHeartbeats 4000000 in
set_option maxRecDepth 100000 in
theorem c_X5_goods (l : Launch) (g : GP) (Y : va_W) (ad : Nat → Nat) (x1 : Int32) (x2 : Int32)  (st : St) {r : Int32} {st' : St} (h : f_X5_goods st x1 x2 = some (r, st')) : MetI l yX5_goods wsX5_goods rmX5_goods g (wCX g Y ad) [.ref (ad 0), .int x1, .int x2] st (r) st' := by
  refine metI_of (cc := cX5_goods) (nL := 4) (ty := .int) (by decide) rfl (Nat.le_of_ble_eq_true rfl) rfl ?_
  intro p e s m below meth c Q A C hret H locs hI ls hl
  have C : Cx p s m _ c cX5_goods 4 wsX5_goods RX5 g A := C
  obtain ⟨hx, hb, hml, hown, hts⟩ := id C.1
  have hl : lv_has ls 4 [(0, .ref (ad 0)), (1, .int x1), (2, .int x2)] := hl
  have hinRX5 : ∀ w ∈ u_ws RX5 TX5 7, w ∈ wsX5_goods := by decide +kernel
  have lk12 := hts (.fieldLink RX5 12 "GraveRows" "ground" "LGraveRows$Ground;") (by decide +kernel)
  have lc47 := hts (.constant RX5 47 (-100001)) (by decide +kernel)
  have hinRX2 : ∀ w ∈ u_ws RX2 TX2 7, w ∈ wsX5_goods := by decide +kernel
  have lk64 := hts (.fieldLink RX5 64 "GraveRows$Ground" "graves" "[LGraveRows$Grave;") (by decide +kernel)
  have hinRX1 : ∀ w ∈ u_ws RX1 TX1 9, w ∈ wsX5_goods := by decide +kernel
  have lk74 := hts (.fieldLink RX5 74 "GraveRows$Grave" "goods" "I") (by decide +kernel)
  rw [f_X5_goods] at h
  refine lv_aload_n hx hb dX5_goods_0 rfl (lv_at hl 0 rfl) ?_
  refine w_get (v := .ref (ad 1)) C hinRX5 hI 0 at_C rfl 0 (by decide) lk12 rfl rfl dX5_goods_1 ?_
  refine lv_iload_n hx hb dX5_goods_4 rfl (lv_at hl 1 rfl) ?_
  refine callV_I (rest := []) C hI (c_X2_holds l g Y ad x1 st) (cwV 1 hts gX5_goods_X2_holds rfl rfl rfl hv_X2_holds ⟨Nat.le_of_ble_eq_true rfl, Nat.le_of_ble_eq_true rfl⟩) (w_recv C hI 1 at_G0 rfl) rfl hl.1 rfl (Nat.le_of_ble_eq_true rfl) dX5_goods_5 (fun H locs hI => ?_)
  refine gen_b h (fun r_1 h => ?_)
  refine lv_if_eq (tgt := 22) hx hb dX5_goods_8 (by decide) (fun c_2 => ?_) (fun c_2 => ?_)
  · replace h := (if_pos c_2).symm.trans h
    refine lv_aload_n hx hb dX5_goods_22 rfl (lv_at hl 0 rfl) ?_
    refine lv_ldc (v := (-100001)) hx hb hown lc47 dX5_goods_23 ?_
    obtain ⟨r_4, st_5, hr_3, h⟩ := bd2_some h
    refine callV_I (rest := []) C hI (c_X5_finding l g Y ad (-100001 : Int32) st hr_3) (cwV 1 hts gX5_goods_X5_finding rfl rfl rfl hv_X5_finding ⟨Nat.le_of_ble_eq_true rfl, Nat.le_of_ble_eq_true rfl⟩) (w_recv C hI 0 at_C rfl) rfl hl.1 rfl (Nat.le_of_ble_eq_true rfl) dX5_goods_25 (fun H locs hI => ?_)
    obtain ⟨rfl, rfl⟩ := ret2 h
    exact hret H locs _ ls hI dX5_goods_28
  · replace h := (if_neg c_2).symm.trans h
    refine lv_iload_n hx hb dX5_goods_11 rfl (lv_at hl 2 rfl) ?_
    refine lv_if_lt (tgt := 22) hx hb dX5_goods_12 (by decide) (fun c_6 => ?_) (fun c_6 => ?_)
    · replace h := (if_pos c_6).symm.trans h
      refine lv_aload_n hx hb dX5_goods_22 rfl (lv_at hl 0 rfl) ?_
      refine lv_ldc (v := (-100001)) hx hb hown lc47 dX5_goods_23 ?_
      obtain ⟨r_8, st_9, hr_7, h⟩ := bd2_some h
      refine callV_I (rest := []) C hI (c_X5_finding l g Y ad (-100001 : Int32) st hr_7) (cwV 1 hts gX5_goods_X5_finding rfl rfl rfl hv_X5_finding ⟨Nat.le_of_ble_eq_true rfl, Nat.le_of_ble_eq_true rfl⟩) (w_recv C hI 0 at_C rfl) rfl hl.1 rfl (Nat.le_of_ble_eq_true rfl) dX5_goods_25 (fun H locs hI => ?_)
      obtain ⟨rfl, rfl⟩ := ret2 h
      exact hret H locs _ ls hI dX5_goods_28
    · replace h := (if_neg c_6).symm.trans h
      refine lv_iload_n hx hb dX5_goods_15 rfl (lv_at hl 2 rfl) ?_
      refine lv_sipush (v := 4095) hx hb dX5_goods_16 (by decide) ?_
      refine lv_icmp_le (tgt := 29) hx hb dX5_goods_19 (by decide) (fun c_10 => ?_) (fun c_10 => ?_)
      · replace h := (if_pos c_10).symm.trans h
        refine lv_aload_n hx hb dX5_goods_29 rfl (lv_at hl 0 rfl) ?_
        refine w_get (v := .ref (ad 1)) C hinRX5 hI 0 at_C rfl 0 (by decide) lk12 rfl rfl dX5_goods_30 ?_
        refine w_get (v := .ref (ad 2)) C hinRX2 hI 1 at_G0 rfl 0 (by decide) lk64 rfl rfl dX5_goods_33 ?_
        refine lv_iload_n hx hb dX5_goods_36 rfl (lv_at hl 1 rfl) ?_
        refine w_ald (t0 := 2) (fa := fun j => ad (7 + j)) C hI 2 ra_2 rfl (fun _ => rfl) h dX5_goods_37 (fun j_11 hj_11 h => ?_)
        refine w_get (v := .int (st 3 j_11)) C hinRX1 hI (7 + j_11) (at_V0 hj_11) rfl 3 (by decide) lk74 rfl rfl dX5_goods_38 ?_
        refine gen_i h (fun v_12 h => ?_)
        refine lv_istore_n (lv' := [(3, .int v_12), (0, .ref (ad 0)), (1, .int x1), (2, .int x2)]) hx hb dX5_goods_41 rfl hl (by decide) rfl (fun ls hl => ?_)
        refine lv_aload_n hx hb dX5_goods_42 rfl (lv_at hl 1 rfl) ?_
        refine w_get (v := .ref (ad 1)) C hinRX5 hI 0 at_C rfl 0 (by decide) lk12 rfl rfl dX5_goods_43 ?_
        refine w_get (v := .ref (ad 2)) C hinRX2 hI 1 at_G0 rfl 0 (by decide) lk64 rfl rfl dX5_goods_46 ?_
        refine lv_iload_n hx hb dX5_goods_49 rfl (lv_at hl 2 rfl) ?_
        refine w_ald (t0 := 2) (fa := fun j => ad (7 + j)) C hI 2 ra_2 rfl (fun _ => rfl) h dX5_goods_50 (fun j_13 hj_13 h => ?_)
        refine lv_iload_n hx hb dX5_goods_51 rfl (lv_at hl 3 rfl) ?_
        refine w_put C hinRX1 tyX1 tyX1_ok nmX1 hI (7 + j_13) (at_V0 hj_13) rfl 3 h (st_V0_goods hj_13) (by decide) (Nat.le_of_ble_eq_true rfl) lk74 ⟨rfl, rfl⟩ rfl rfl dX5_goods_52 (fun st_14 H locs h hI => ?_)
        refine lv_iload_n hx hb dX5_goods_55 rfl (lv_at hl 0 rfl) ?_
        obtain ⟨rfl, rfl⟩ := ret2 h
        exact hret H locs _ ls hI dX5_goods_56
      · replace h := (if_neg c_10).symm.trans h
        refine lv_aload_n hx hb dX5_goods_22 rfl (lv_at hl 0 rfl) ?_
        refine lv_ldc (v := (-100001)) hx hb hown lc47 dX5_goods_23 ?_
        obtain ⟨r_16, st_17, hr_15, h⟩ := bd2_some h
        refine callV_I (rest := []) C hI (c_X5_finding l g Y ad (-100001 : Int32) st hr_15) (cwV 1 hts gX5_goods_X5_finding rfl rfl rfl hv_X5_finding ⟨Nat.le_of_ble_eq_true rfl, Nat.le_of_ble_eq_true rfl⟩) (w_recv C hI 0 at_C rfl) rfl hl.1 rfl (Nat.le_of_ble_eq_true rfl) dX5_goods_25 (fun H locs hI => ?_)
        obtain ⟨rfl, rfl⟩ := ret2 h
        exact hret H locs _ ls hI dX5_goods_28
theorem hv_X5_goods : yX5_goods.cls = RX5 ∧ yX5_goods.cls ≠ "java/lang/invoke/MethodHandle" ∧ yX5_goods.cls ≠ "java/lang/invoke/VarHandle" ∧ (parseMethodDescriptor yX5_goods.desc).map (fun d => d.parameters.length) = some 2 := by decide +kernel
/-! X5_of -/
def rmX5_of : Room := { frames := 2, cells := 0, slots := 0, locals := 44 }
def f_X5_of (N : Nat) (st : St) (x1 : Int32) (x2 : Int32) : Option (Int32 × St) := bnd (f_X2_holds st x1) fun r_1 => if b2i r_1 = 0 then bd2 (f_X5_finding st (-100001 : Int32)) fun r_20 st_21 => some (r_20, st_21) else ck 10 x1 fun j_3 => if x2 = 0 then some (st 0 j_3, st) else if x2 = 1 then some (st 1 j_3, st) else if x2 = 2 then some (st 2 j_3, st) else if x2 = 3 then some (st 3 j_3, st) else if x2 = 4 then some (st 4 j_3, st) else if x2 = 5 then some (st 5 j_3, st) else if x2 = 6 then bnd (f_J6_bitCount_0f7a4 (st 6 j_3)) fun r_11 => some (r_11, st) else if x2 = 7 then bd1 (f_X2_cuttersOf N st x1) fun r_14 => bnd (f_J6_bitCount_0f7a4 r_14) fun r_15 => some (r_15, st) else bd2 (f_X5_finding st (-100001 : Int32)) fun r_17 st_18 => some (r_17, st_18)
set_option maxHeartbeats 4000000 in
set_option maxRecDepth 100000 in
theorem c_X5_of (l : Launch) (g : GP) (Y : va_W) (ad : Nat → Nat) (N : Nat) (x1 : Int32) (x2 : Int32)  (st : St) {r : Int32} {st' : St} (h : f_X5_of N st x1 x2 = some (r, st')) : MetI l yX5_of wsX5_of rmX5_of g (wCX g Y ad) [.ref (ad 0), .int x1, .int x2] st (r) st' := by
  refine metI_of (cc := cX5_of) (nL := 4) (ty := .int) (by decide) rfl (Nat.le_of_ble_eq_true rfl) rfl ?_
  intro p e s m below meth c Q A C hret H locs hI ls hl
  have C : Cx p s m _ c cX5_of 4 wsX5_of RX5 g A := C
  obtain ⟨hx, hb, hml, hown, hts⟩ := id C.1
  have hl : lv_has ls 4 [(0, .ref (ad 0)), (1, .int x1), (2, .int x2)] := hl
  have hinRX5 : ∀ w ∈ u_ws RX5 TX5 7, w ∈ wsX5_of := by decide +kernel
  have lk12 := hts (.fieldLink RX5 12 "GraveRows" "ground" "LGraveRows$Ground;") (by decide +kernel)
  have hinRX2 : ∀ w ∈ u_ws RX2 TX2 7, w ∈ wsX5_of := by decide +kernel
  have lk64 := hts (.fieldLink RX5 64 "GraveRows$Ground" "graves" "[LGraveRows$Grave;") (by decide +kernel)
  have hinRX1 : ∀ w ∈ u_ws RX1 TX1 9, w ∈ wsX5_of := by decide +kernel
  have lk77 := hts (.fieldLink RX5 77 "GraveRows$Grave" "kind" "I") (by decide +kernel)
  have lk80 := hts (.fieldLink RX5 80 "GraveRows$Grave" "x" "I") (by decide +kernel)
  have lk83 := hts (.fieldLink RX5 83 "GraveRows$Grave" "y" "I") (by decide +kernel)
  have lk74 := hts (.fieldLink RX5 74 "GraveRows$Grave" "goods" "I") (by decide +kernel)
  have lk86 := hts (.fieldLink RX5 86 "GraveRows$Grave" "from" "I") (by decide +kernel)
  have lk89 := hts (.fieldLink RX5 89 "GraveRows$Grave" "to" "I") (by decide +kernel)
  have lk92 := hts (.fieldLink RX5 92 "GraveRows$Grave" "cuts" "I") (by decide +kernel)
  have lc47 := hts (.constant RX5 47 (-100001)) (by decide +kernel)
  rw [f_X5_of] at h
  refine lv_aload_n hx hb dX5_of_0 rfl (lv_at hl 0 rfl) ?_
  refine w_get (v := .ref (ad 1)) C hinRX5 hI 0 at_C rfl 0 (by decide) lk12 rfl rfl dX5_of_1 ?_
  refine lv_iload_n hx hb dX5_of_4 rfl (lv_at hl 1 rfl) ?_
  refine callV_I (rest := []) C hI (c_X2_holds l g Y ad x1 st) (cwV 1 hts gX5_of_X2_holds rfl rfl rfl hv_X2_holds ⟨Nat.le_of_ble_eq_true rfl, Nat.le_of_ble_eq_true rfl⟩) (w_recv C hI 1 at_G0 rfl) rfl hl.1 rfl (Nat.le_of_ble_eq_true rfl) dX5_of_5 (fun H locs hI => ?_)
  refine gen_b h (fun r_1 h => ?_)
  refine lv_if_ne (tgt := 18) hx hb dX5_of_8 (by decide) (fun c_2 => ?_) (fun c_2 => ?_)
  · replace h := (if_neg c_2).symm.trans h
    refine lv_aload_n hx hb dX5_of_18 rfl (lv_at hl 0 rfl) ?_
    refine w_get (v := .ref (ad 1)) C hinRX5 hI 0 at_C rfl 0 (by decide) lk12 rfl rfl dX5_of_19 ?_
    refine w_get (v := .ref (ad 2)) C hinRX2 hI 1 at_G0 rfl 0 (by decide) lk64 rfl rfl dX5_of_22 ?_
    refine lv_iload_n hx hb dX5_of_25 rfl (lv_at hl 1 rfl) ?_
    refine w_ald (t0 := 2) (fa := fun j => ad (7 + j)) C hI 2 ra_2 rfl (fun _ => rfl) h dX5_of_26 (fun j_3 hj_3 h => ?_)
    refine lv_astore_n (lv' := [(3, .ref (ad (7 + j_3))), (0, .ref (ad 0)), (1, .int x1), (2, .int x2)]) hx hb dX5_of_27 rfl hl (by decide) rfl (fun ls hl => ?_)
    refine lv_iload_n hx hb dX5_of_28 rfl (lv_at hl 3 rfl) ?_
    by_cases c_4 : x2 = 0
    · replace h := (if_pos c_4).symm.trans h
      refine top_eq c_4 ?_
      refine lv_tableIn (tgt := 76) hx hb dX5_of_29 (by decide) (by decide) (by rfl) (by decide) ?_
      refine lv_aload_n hx hb dX5_of_76 rfl (lv_at hl 0 rfl) ?_
      refine w_get (v := .int (st 0 j_3)) C hinRX1 hI (7 + j_3) (at_V0 hj_3) rfl 0 (by decide) lk77 rfl rfl dX5_of_77 ?_
      obtain ⟨rfl, rfl⟩ := ret2 h
      exact hret H locs _ ls hI dX5_of_80
    replace h := (if_neg c_4).symm.trans h
    by_cases c_5 : x2 = 1
    · replace h := (if_pos c_5).symm.trans h
      refine top_eq c_5 ?_
      refine lv_tableIn (tgt := 81) hx hb dX5_of_29 (by decide) (by decide) (by rfl) (by decide) ?_
      refine lv_aload_n hx hb dX5_of_81 rfl (lv_at hl 0 rfl) ?_
      refine w_get (v := .int (st 1 j_3)) C hinRX1 hI (7 + j_3) (at_V0 hj_3) rfl 1 (by decide) lk80 rfl rfl dX5_of_82 ?_
      obtain ⟨rfl, rfl⟩ := ret2 h
      exact hret H locs _ ls hI dX5_of_85
    replace h := (if_neg c_5).symm.trans h
    by_cases c_6 : x2 = 2
    · replace h := (if_pos c_6).symm.trans h
      refine top_eq c_6 ?_
      refine lv_tableIn (tgt := 86) hx hb dX5_of_29 (by decide) (by decide) (by rfl) (by decide) ?_
      refine lv_aload_n hx hb dX5_of_86 rfl (lv_at hl 0 rfl) ?_
      refine w_get (v := .int (st 2 j_3)) C hinRX1 hI (7 + j_3) (at_V0 hj_3) rfl 2 (by decide) lk83 rfl rfl dX5_of_87 ?_
      obtain ⟨rfl, rfl⟩ := ret2 h
      exact hret H locs _ ls hI dX5_of_90
    replace h := (if_neg c_6).symm.trans h
    by_cases c_7 : x2 = 3
    · replace h := (if_pos c_7).symm.trans h
      refine top_eq c_7 ?_
      refine lv_tableIn (tgt := 91) hx hb dX5_of_29 (by decide) (by decide) (by rfl) (by decide) ?_
      refine lv_aload_n hx hb dX5_of_91 rfl (lv_at hl 0 rfl) ?_
      refine w_get (v := .int (st 3 j_3)) C hinRX1 hI (7 + j_3) (at_V0 hj_3) rfl 3 (by decide) lk74 rfl rfl dX5_of_92 ?_
      obtain ⟨rfl, rfl⟩ := ret2 h
      exact hret H locs _ ls hI dX5_of_95
    replace h := (if_neg c_7).symm.trans h
    by_cases c_8 : x2 = 4
    · replace h := (if_pos c_8).symm.trans h
      refine top_eq c_8 ?_
      refine lv_tableIn (tgt := 96) hx hb dX5_of_29 (by decide) (by decide) (by rfl) (by decide) ?_
      refine lv_aload_n hx hb dX5_of_96 rfl (lv_at hl 0 rfl) ?_
      refine w_get (v := .int (st 4 j_3)) C hinRX1 hI (7 + j_3) (at_V0 hj_3) rfl 4 (by decide) lk86 rfl rfl dX5_of_97 ?_
      obtain ⟨rfl, rfl⟩ := ret2 h
      exact hret H locs _ ls hI dX5_of_100
    replace h := (if_neg c_8).symm.trans h
    by_cases c_9 : x2 = 5
    · replace h := (if_pos c_9).symm.trans h
      refine top_eq c_9 ?_
      refine lv_tableIn (tgt := 101) hx hb dX5_of_29 (by decide) (by decide) (by rfl) (by decide) ?_
      refine lv_aload_n hx hb dX5_of_101 rfl (lv_at hl 0 rfl) ?_
      refine w_get (v := .int (st 5 j_3)) C hinRX1 hI (7 + j_3) (at_V0 hj_3) rfl 5 (by decide) lk89 rfl rfl dX5_of_102 ?_
      obtain ⟨rfl, rfl⟩ := ret2 h
      exact hret H locs _ ls hI dX5_of_105
    replace h := (if_neg c_9).symm.trans h
    by_cases c_10 : x2 = 6
    · replace h := (if_pos c_10).symm.trans h
      refine top_eq c_10 ?_
      refine lv_tableIn (tgt := 106) hx hb dX5_of_29 (by decide) (by decide) (by rfl) (by decide) ?_
      refine lv_aload_n hx hb dX5_of_106 rfl (lv_at hl 0 rfl) ?_
      refine w_get (v := .int (st 6 j_3)) C hinRX1 hI (7 + j_3) (at_V0 hj_3) rfl 6 (by decide) lk92 rfl rfl dX5_of_107 ?_
      refine callS_S (rest := []) C.1 (c_J6_bitCount_0f7a4 l (st 6 j_3)) (va_cwS 1 hts gX5_of_J6_bitCount_0f7a4 rfl rfl rfl hd_J6_bitCount_0f7a4 ⟨Nat.le_of_ble_eq_true rfl, Nat.le_of_ble_eq_true rfl⟩) rfl hl.1 rfl (Nat.le_of_ble_eq_true rfl) dX5_of_110 ?_
      refine gen_i h (fun r_11 h => ?_)
      obtain ⟨rfl, rfl⟩ := ret2 h
      exact hret H locs _ ls hI dX5_of_113
    replace h := (if_neg c_10).symm.trans h
    by_cases c_12 : x2 = 7
    · replace h := (if_pos c_12).symm.trans h
      refine top_eq c_12 ?_
      refine lv_tableIn (tgt := 114) hx hb dX5_of_29 (by decide) (by decide) (by rfl) (by decide) ?_
      refine lv_aload_n hx hb dX5_of_114 rfl (lv_at hl 1 rfl) ?_
      refine w_get (v := .ref (ad 1)) C hinRX5 hI 0 at_C rfl 0 (by decide) lk12 rfl rfl dX5_of_115 ?_
      refine lv_iload_n hx hb dX5_of_118 rfl (lv_at hl 2 rfl) ?_
      obtain ⟨r_14, hr_13, h⟩ := bd1_some h
      refine callV_I (rest := []) C hI (c_X2_cuttersOf l g Y ad N x1 st hr_13) (cwV 1 hts gX5_of_X2_cuttersOf rfl rfl rfl hv_X2_cuttersOf ⟨Nat.le_of_ble_eq_true rfl, Nat.le_of_ble_eq_true rfl⟩) (w_recv C hI 1 at_G0 rfl) rfl hl.1 rfl (Nat.le_of_ble_eq_true rfl) dX5_of_119 (fun H locs hI => ?_)
      refine callS_S (rest := []) C.1 (c_J6_bitCount_0f7a4 l r_14) (va_cwS 1 hts gX5_of_J6_bitCount_0f7a4 rfl rfl rfl hd_J6_bitCount_0f7a4 ⟨Nat.le_of_ble_eq_true rfl, Nat.le_of_ble_eq_true rfl⟩) rfl hl.1 rfl (Nat.le_of_ble_eq_true rfl) dX5_of_122 ?_
      refine gen_i h (fun r_15 h => ?_)
      obtain ⟨rfl, rfl⟩ := ret2 h
      exact hret H locs _ ls hI dX5_of_125
    replace h := (if_neg c_12).symm.trans h
    refine lv_tableOut (tgt := 126) hx hb dX5_of_29 (tab_out8 c_4 c_5 c_6 c_7 c_8 c_9 c_10 c_12) (by decide) ?_
    refine lv_aload_n hx hb dX5_of_126 rfl (lv_at hl 1 rfl) ?_
    refine lv_ldc (v := (-100001)) hx hb hown lc47 dX5_of_127 ?_
    obtain ⟨r_17, st_18, hr_16, h⟩ := bd2_some h
    refine callV_I (rest := []) C hI (c_X5_finding l g Y ad (-100001 : Int32) st hr_16) (cwV 1 hts gX5_of_X5_finding rfl rfl rfl hv_X5_finding ⟨Nat.le_of_ble_eq_true rfl, Nat.le_of_ble_eq_true rfl⟩) (w_recv C hI 0 at_C rfl) rfl hl.1 rfl (Nat.le_of_ble_eq_true rfl) dX5_of_129 (fun H locs hI => ?_)
    obtain ⟨rfl, rfl⟩ := ret2 h
    exact hret H locs _ ls hI dX5_of_132
  · replace h := (if_pos c_2).symm.trans h
    refine lv_aload_n hx hb dX5_of_11 rfl (lv_at hl 0 rfl) ?_
    refine lv_ldc (v := (-100001)) hx hb hown lc47 dX5_of_12 ?_
    obtain ⟨r_20, st_21, hr_19, h⟩ := bd2_some h
    refine callV_I (rest := []) C hI (c_X5_finding l g Y ad (-100001 : Int32) st hr_19) (cwV 1 hts gX5_of_X5_finding rfl rfl rfl hv_X5_finding ⟨Nat.le_of_ble_eq_true rfl, Nat.le_of_ble_eq_true rfl⟩) (w_recv C hI 0 at_C rfl) rfl hl.1 rfl (Nat.le_of_ble_eq_true rfl) dX5_of_14 (fun H locs hI => ?_)
    obtain ⟨rfl, rfl⟩ := ret2 h
    exact hret H locs _ ls hI dX5_of_17
theorem hv_X5_of : yX5_of.cls = RX5 ∧ yX5_of.cls ≠ "java/lang/invoke/MethodHandle" ∧ yX5_of.cls ≠ "java/lang/invoke/VarHandle" ∧ (parseMethodDescriptor yX5_of.desc).map (fun d => d.parameters.length) = some 2 := by decide +kernel
/-! X5_span -/
def rmX5_span : Room := { frames := 1, cells := 0, slots := 0, locals := 21 }
def f_X5_span (st : St) (x1 : Int32) (x2 : Int32) (x3 : Int32) : Option (Int32 × St) := bnd (f_X2_holds st x1) fun r_1 => if b2i r_1 = 0 then bd2 (f_X5_finding st (-100001 : Int32)) fun r_4 st_5 => some (r_4, st_5) else bnd (f_X5_isYear x2) fun r_6 => if b2i r_6 = 0 then bd2 (f_X5_finding st (-100001 : Int32)) fun r_9 st_10 => some (r_9, st_10) else bnd (f_X5_isYear x3) fun r_11 => if b2i r_11 = 0 then bd2 (f_X5_finding st (-100001 : Int32)) fun r_22 st_23 => some (r_22, st_23) else if x2 ≤ x3 then ck 10 x1 fun j_14 => bnd (sU st 4 j_14 x2) fun st_15 => ck 10 x1 fun j_16 => bnd (sU st_15 5 j_16 x3) fun st_17 => some (1, st_17) else bd2 (f_X5_finding st (-100003 : Int32)) fun r_19 st_20 => some (r_19, st_20)
set_option maxHeartbeats 4000000 in
set_option maxRecDepth 100000 in
theorem c_X5_span (l : Launch) (g : GP) (Y : va_W) (ad : Nat → Nat) (x1 : Int32) (x2 : Int32) (x3 : Int32)  (st : St) {r : Int32} {st' : St} (h : f_X5_span st x1 x2 x3 = some (r, st')) : MetI l yX5_span wsX5_span rmX5_span g (wCX g Y ad) [.ref (ad 0), .int x1, .int x2, .int x3] st (r) st' := by
  refine metI_of (cc := cX5_span) (nL := 4) (ty := .int) (by decide) rfl (Nat.le_of_ble_eq_true rfl) rfl ?_
  intro p e s m below meth c Q A C hret H locs hI ls hl
  have C : Cx p s m _ c cX5_span 4 wsX5_span RX5 g A := C
  obtain ⟨hx, hb, hml, hown, hts⟩ := id C.1
  have hl : lv_has ls 4 [(0, .ref (ad 0)), (1, .int x1), (2, .int x2), (3, .int x3)] := hl
  have hinRX5 : ∀ w ∈ u_ws RX5 TX5 7, w ∈ wsX5_span := by decide +kernel
  have lk12 := hts (.fieldLink RX5 12 "GraveRows" "ground" "LGraveRows$Ground;") (by decide +kernel)
  have lc47 := hts (.constant RX5 47 (-100001)) (by decide +kernel)
  have hinRX2 : ∀ w ∈ u_ws RX2 TX2 7, w ∈ wsX5_span := by decide +kernel
  have lk64 := hts (.fieldLink RX5 64 "GraveRows$Ground" "graves" "[LGraveRows$Grave;") (by decide +kernel)
  have hinRX1 : ∀ w ∈ u_ws RX1 TX1 9, w ∈ wsX5_span := by decide +kernel
  have lk86 := hts (.fieldLink RX5 86 "GraveRows$Grave" "from" "I") (by decide +kernel)
  have lk89 := hts (.fieldLink RX5 89 "GraveRows$Grave" "to" "I") (by decide +kernel)
  have lc106 := hts (.constant RX5 106 (-100003)) (by decide +kernel)
  rw [f_X5_span] at h
  refine lv_aload_n hx hb dX5_span_0 rfl (lv_at hl 0 rfl) ?_
  refine w_get (v := .ref (ad 1)) C hinRX5 hI 0 at_C rfl 0 (by decide) lk12 rfl rfl dX5_span_1 ?_
  refine lv_iload_n hx hb dX5_span_4 rfl (lv_at hl 1 rfl) ?_
  refine callV_I (rest := []) C hI (c_X2_holds l g Y ad x1 st) (cwV 1 hts gX5_span_X2_holds rfl rfl rfl hv_X2_holds ⟨Nat.le_of_ble_eq_true rfl, Nat.le_of_ble_eq_true rfl⟩) (w_recv C hI 1 at_G0 rfl) rfl hl.1 rfl (Nat.le_of_ble_eq_true rfl) dX5_span_5 (fun H locs hI => ?_)
  refine gen_b h (fun r_1 h => ?_)
  refine lv_if_eq (tgt := 25) hx hb dX5_span_8 (by decide) (fun c_2 => ?_) (fun c_2 => ?_)
  · replace h := (if_pos c_2).symm.trans h
    refine lv_aload_n hx hb dX5_span_25 rfl (lv_at hl 0 rfl) ?_
    refine lv_ldc (v := (-100001)) hx hb hown lc47 dX5_span_26 ?_
    obtain ⟨r_4, st_5, hr_3, h⟩ := bd2_some h
    refine callV_I (rest := []) C hI (c_X5_finding l g Y ad (-100001 : Int32) st hr_3) (cwV 1 hts gX5_span_X5_finding rfl rfl rfl hv_X5_finding ⟨Nat.le_of_ble_eq_true rfl, Nat.le_of_ble_eq_true rfl⟩) (w_recv C hI 0 at_C rfl) rfl hl.1 rfl (Nat.le_of_ble_eq_true rfl) dX5_span_28 (fun H locs hI => ?_)
    obtain ⟨rfl, rfl⟩ := ret2 h
    exact hret H locs _ ls hI dX5_span_31
  · replace h := (if_neg c_2).symm.trans h
    refine lv_iload_n hx hb dX5_span_11 rfl (lv_at hl 2 rfl) ?_
    refine callS_S (rest := []) C.1 (c_X5_isYear l x2) (va_cwS 1 hts gX5_span_X5_isYear rfl rfl rfl hd_X5_isYear ⟨Nat.le_of_ble_eq_true rfl, Nat.le_of_ble_eq_true rfl⟩) rfl hl.1 rfl (Nat.le_of_ble_eq_true rfl) dX5_span_12 ?_
    refine gen_b h (fun r_6 h => ?_)
    refine lv_if_eq (tgt := 25) hx hb dX5_span_15 (by decide) (fun c_7 => ?_) (fun c_7 => ?_)
    · replace h := (if_pos c_7).symm.trans h
      refine lv_aload_n hx hb dX5_span_25 rfl (lv_at hl 0 rfl) ?_
      refine lv_ldc (v := (-100001)) hx hb hown lc47 dX5_span_26 ?_
      obtain ⟨r_9, st_10, hr_8, h⟩ := bd2_some h
      refine callV_I (rest := []) C hI (c_X5_finding l g Y ad (-100001 : Int32) st hr_8) (cwV 1 hts gX5_span_X5_finding rfl rfl rfl hv_X5_finding ⟨Nat.le_of_ble_eq_true rfl, Nat.le_of_ble_eq_true rfl⟩) (w_recv C hI 0 at_C rfl) rfl hl.1 rfl (Nat.le_of_ble_eq_true rfl) dX5_span_28 (fun H locs hI => ?_)
      obtain ⟨rfl, rfl⟩ := ret2 h
      exact hret H locs _ ls hI dX5_span_31
    · replace h := (if_neg c_7).symm.trans h
      refine lv_iload_n hx hb dX5_span_18 rfl (lv_at hl 3 rfl) ?_
      refine callS_S (rest := []) C.1 (c_X5_isYear l x3) (va_cwS 1 hts gX5_span_X5_isYear rfl rfl rfl hd_X5_isYear ⟨Nat.le_of_ble_eq_true rfl, Nat.le_of_ble_eq_true rfl⟩) rfl hl.1 rfl (Nat.le_of_ble_eq_true rfl) dX5_span_19 ?_
      refine gen_b h (fun r_11 h => ?_)
      refine lv_if_ne (tgt := 32) hx hb dX5_span_22 (by decide) (fun c_12 => ?_) (fun c_12 => ?_)
      · replace h := (if_neg c_12).symm.trans h
        refine lv_iload_n hx hb dX5_span_32 rfl (lv_at hl 2 rfl) ?_
        refine lv_iload_n hx hb dX5_span_33 rfl (lv_at hl 3 rfl) ?_
        refine lv_icmp_le (tgt := 44) hx hb dX5_span_34 (by decide) (fun c_13 => ?_) (fun c_13 => ?_)
        · replace h := (if_pos c_13).symm.trans h
          refine lv_aload_n hx hb dX5_span_44 rfl (lv_at hl 0 rfl) ?_
          refine w_get (v := .ref (ad 1)) C hinRX5 hI 0 at_C rfl 0 (by decide) lk12 rfl rfl dX5_span_45 ?_
          refine w_get (v := .ref (ad 2)) C hinRX2 hI 1 at_G0 rfl 0 (by decide) lk64 rfl rfl dX5_span_48 ?_
          refine lv_iload_n hx hb dX5_span_51 rfl (lv_at hl 1 rfl) ?_
          refine w_ald (t0 := 2) (fa := fun j => ad (7 + j)) C hI 2 ra_2 rfl (fun _ => rfl) h dX5_span_52 (fun j_14 hj_14 h => ?_)
          refine lv_iload_n hx hb dX5_span_53 rfl (lv_at hl 2 rfl) ?_
          refine w_put C hinRX1 tyX1 tyX1_ok nmX1 hI (7 + j_14) (at_V0 hj_14) rfl 4 h (st_V0_from hj_14) (by decide) (Nat.le_of_ble_eq_true rfl) lk86 ⟨rfl, rfl⟩ rfl rfl dX5_span_54 (fun st_15 H locs h hI => ?_)
          refine lv_aload_n hx hb dX5_span_57 rfl (lv_at hl 0 rfl) ?_
          refine w_get (v := .ref (ad 1)) C hinRX5 hI 0 at_C rfl 0 (by decide) lk12 rfl rfl dX5_span_58 ?_
          refine w_get (v := .ref (ad 2)) C hinRX2 hI 1 at_G0 rfl 0 (by decide) lk64 rfl rfl dX5_span_61 ?_
          refine lv_iload_n hx hb dX5_span_64 rfl (lv_at hl 1 rfl) ?_
          refine w_ald (t0 := 2) (fa := fun j => ad (7 + j)) C hI 2 ra_2 rfl (fun _ => rfl) h dX5_span_65 (fun j_16 hj_16 h => ?_)
          refine lv_iload_n hx hb dX5_span_66 rfl (lv_at hl 3 rfl) ?_
          refine w_put C hinRX1 tyX1 tyX1_ok nmX1 hI (7 + j_16) (at_V0 hj_16) rfl 5 h (st_V0_to hj_16) (by decide) (Nat.le_of_ble_eq_true rfl) lk89 ⟨rfl, rfl⟩ rfl rfl dX5_span_67 (fun st_17 H locs h hI => ?_)
          refine lv_iconst (v := 1) hx hb dX5_span_70 (by decide) ?_
          obtain ⟨rfl, rfl⟩ := ret2 h
          exact hret H locs _ ls hI dX5_span_71
        · replace h := (if_neg c_13).symm.trans h
          refine lv_aload_n hx hb dX5_span_37 rfl (lv_at hl 0 rfl) ?_
          refine lv_ldc (v := (-100003)) hx hb hown lc106 dX5_span_38 ?_
          obtain ⟨r_19, st_20, hr_18, h⟩ := bd2_some h
          refine callV_I (rest := []) C hI (c_X5_finding l g Y ad (-100003 : Int32) st hr_18) (cwV 1 hts gX5_span_X5_finding rfl rfl rfl hv_X5_finding ⟨Nat.le_of_ble_eq_true rfl, Nat.le_of_ble_eq_true rfl⟩) (w_recv C hI 0 at_C rfl) rfl hl.1 rfl (Nat.le_of_ble_eq_true rfl) dX5_span_40 (fun H locs hI => ?_)
          obtain ⟨rfl, rfl⟩ := ret2 h
          exact hret H locs _ ls hI dX5_span_43
      · replace h := (if_pos c_12).symm.trans h
        refine lv_aload_n hx hb dX5_span_25 rfl (lv_at hl 0 rfl) ?_
        refine lv_ldc (v := (-100001)) hx hb hown lc47 dX5_span_26 ?_
        obtain ⟨r_22, st_23, hr_21, h⟩ := bd2_some h
        refine callV_I (rest := []) C hI (c_X5_finding l g Y ad (-100001 : Int32) st hr_21) (cwV 1 hts gX5_span_X5_finding rfl rfl rfl hv_X5_finding ⟨Nat.le_of_ble_eq_true rfl, Nat.le_of_ble_eq_true rfl⟩) (w_recv C hI 0 at_C rfl) rfl hl.1 rfl (Nat.le_of_ble_eq_true rfl) dX5_span_28 (fun H locs hI => ?_)
        obtain ⟨rfl, rfl⟩ := ret2 h
        exact hret H locs _ ls hI dX5_span_31
theorem hv_X5_span : yX5_span.cls = RX5 ∧ yX5_span.cls ≠ "java/lang/invoke/MethodHandle" ∧ yX5_span.cls ≠ "java/lang/invoke/VarHandle" ∧ (parseMethodDescriptor yX5_span.desc).map (fun d => d.parameters.length) = some 3 := by decide +kernel
/-! X5_coin -/
def rmX5_coin : Room := { frames := 1, cells := 0, slots := 0, locals := 24 }
def f_X5_coin (N : Nat) (st : St) (x1 : Int32) (x2 : Int32) : Option (Int32 × St) := bnd (f_X2_holds st x1) fun r_1 => if b2i r_1 = 0 then bd2 (f_X5_finding st (-100001 : Int32)) fun r_4 st_5 => some (r_4, st_5) else bnd (f_X5_isYear x2) fun r_6 => if b2i r_6 = 0 then bd2 (f_X5_finding st (-100001 : Int32)) fun r_21 st_22 => some (r_21, st_22) else ck 10 x1 fun j_8 => bd1 (f_X1_isOfKind N st j_8 3) fun r_10 => if b2i r_10 = 0 then bd2 (f_X5_finding st (-100004 : Int32)) fun r_18 st_19 => some (r_18, st_19) else if x2 ≤ st 5 j_8 then bnd (sU st 4 j_8 (imax (st 4 j_8) x2)) fun st_13 => some (st_13 4 j_8, st_13) else bd2 (f_X5_finding st (-100003 : Int32)) fun r_15 st_16 => some (r_15, st_16)
set_option maxHeartbeats 4000000 in
set_option maxRecDepth 100000 in
theorem c_X5_coin (l : Launch) (g : GP) (Y : va_W) (ad : Nat → Nat) (N : Nat) (x1 : Int32) (x2 : Int32)  (st : St) {r : Int32} {st' : St} (h : f_X5_coin N st x1 x2 = some (r, st')) : MetI l yX5_coin wsX5_coin rmX5_coin g (wCX g Y ad) [.ref (ad 0), .int x1, .int x2] st (r) st' := by
  refine metI_of (cc := cX5_coin) (nL := 4) (ty := .int) (by decide) rfl (Nat.le_of_ble_eq_true rfl) rfl ?_
  intro p e s m below meth c Q A C hret H locs hI ls hl
  have C : Cx p s m _ c cX5_coin 4 wsX5_coin RX5 g A := C
  obtain ⟨hx, hb, hml, hown, hts⟩ := id C.1
  have hl : lv_has ls 4 [(0, .ref (ad 0)), (1, .int x1), (2, .int x2)] := hl
  have hinRX5 : ∀ w ∈ u_ws RX5 TX5 7, w ∈ wsX5_coin := by decide +kernel
  have lk12 := hts (.fieldLink RX5 12 "GraveRows" "ground" "LGraveRows$Ground;") (by decide +kernel)
  have lc47 := hts (.constant RX5 47 (-100001)) (by decide +kernel)
  have hinRX2 : ∀ w ∈ u_ws RX2 TX2 7, w ∈ wsX5_coin := by decide +kernel
  have lk64 := hts (.fieldLink RX5 64 "GraveRows$Ground" "graves" "[LGraveRows$Grave;") (by decide +kernel)
  have hinRX1 : ∀ w ∈ u_ws RX1 TX1 9, w ∈ wsX5_coin := by decide +kernel
  have lk89 := hts (.fieldLink RX5 89 "GraveRows$Grave" "to" "I") (by decide +kernel)
  have lk86 := hts (.fieldLink RX5 86 "GraveRows$Grave" "from" "I") (by decide +kernel)
  have ml107 := hts (.methodLink RX5 107 Lib.Math.max.name) (by decide +kernel)
  have msmax := hts (.static Lib.Math.max.name) (by decide +kernel)
  have mini := hts (.initialized "java/lang/Math") (by decide +kernel)
  have mcmax := hts (.code Lib.Math.max.name Lib.Math.max.code 2 (some .int)) (by decide +kernel)
  have lc106 := hts (.constant RX5 106 (-100003)) (by decide +kernel)
  have lc73 := hts (.constant RX5 73 (-100004)) (by decide +kernel)
  rw [f_X5_coin] at h
  refine lv_aload_n hx hb dX5_coin_0 rfl (lv_at hl 0 rfl) ?_
  refine w_get (v := .ref (ad 1)) C hinRX5 hI 0 at_C rfl 0 (by decide) lk12 rfl rfl dX5_coin_1 ?_
  refine lv_iload_n hx hb dX5_coin_4 rfl (lv_at hl 1 rfl) ?_
  refine callV_I (rest := []) C hI (c_X2_holds l g Y ad x1 st) (cwV 1 hts gX5_coin_X2_holds rfl rfl rfl hv_X2_holds ⟨Nat.le_of_ble_eq_true rfl, Nat.le_of_ble_eq_true rfl⟩) (w_recv C hI 1 at_G0 rfl) rfl hl.1 rfl (Nat.le_of_ble_eq_true rfl) dX5_coin_5 (fun H locs hI => ?_)
  refine gen_b h (fun r_1 h => ?_)
  refine lv_if_eq (tgt := 18) hx hb dX5_coin_8 (by decide) (fun c_2 => ?_) (fun c_2 => ?_)
  · replace h := (if_pos c_2).symm.trans h
    refine lv_aload_n hx hb dX5_coin_18 rfl (lv_at hl 0 rfl) ?_
    refine lv_ldc (v := (-100001)) hx hb hown lc47 dX5_coin_19 ?_
    obtain ⟨r_4, st_5, hr_3, h⟩ := bd2_some h
    refine callV_I (rest := []) C hI (c_X5_finding l g Y ad (-100001 : Int32) st hr_3) (cwV 1 hts gX5_coin_X5_finding rfl rfl rfl hv_X5_finding ⟨Nat.le_of_ble_eq_true rfl, Nat.le_of_ble_eq_true rfl⟩) (w_recv C hI 0 at_C rfl) rfl hl.1 rfl (Nat.le_of_ble_eq_true rfl) dX5_coin_21 (fun H locs hI => ?_)
    obtain ⟨rfl, rfl⟩ := ret2 h
    exact hret H locs _ ls hI dX5_coin_24
  · replace h := (if_neg c_2).symm.trans h
    refine lv_iload_n hx hb dX5_coin_11 rfl (lv_at hl 2 rfl) ?_
    refine callS_S (rest := []) C.1 (c_X5_isYear l x2) (va_cwS 1 hts gX5_coin_X5_isYear rfl rfl rfl hd_X5_isYear ⟨Nat.le_of_ble_eq_true rfl, Nat.le_of_ble_eq_true rfl⟩) rfl hl.1 rfl (Nat.le_of_ble_eq_true rfl) dX5_coin_12 ?_
    refine gen_b h (fun r_6 h => ?_)
    refine lv_if_ne (tgt := 25) hx hb dX5_coin_15 (by decide) (fun c_7 => ?_) (fun c_7 => ?_)
    · replace h := (if_neg c_7).symm.trans h
      refine lv_aload_n hx hb dX5_coin_25 rfl (lv_at hl 0 rfl) ?_
      refine w_get (v := .ref (ad 1)) C hinRX5 hI 0 at_C rfl 0 (by decide) lk12 rfl rfl dX5_coin_26 ?_
      refine w_get (v := .ref (ad 2)) C hinRX2 hI 1 at_G0 rfl 0 (by decide) lk64 rfl rfl dX5_coin_29 ?_
      refine lv_iload_n hx hb dX5_coin_32 rfl (lv_at hl 1 rfl) ?_
      refine w_ald (t0 := 2) (fa := fun j => ad (7 + j)) C hI 2 ra_2 rfl (fun _ => rfl) h dX5_coin_33 (fun j_8 hj_8 h => ?_)
      refine lv_astore_n (lv' := [(3, .ref (ad (7 + j_8))), (0, .ref (ad 0)), (1, .int x1), (2, .int x2)]) hx hb dX5_coin_34 rfl hl (by decide) rfl (fun ls hl => ?_)
      refine lv_aload_n hx hb dX5_coin_35 rfl (lv_at hl 0 rfl) ?_
      refine lv_iconst (v := 3) hx hb dX5_coin_36 (by decide) ?_
      obtain ⟨r_10, hr_9, h⟩ := bd1_some h
      refine callV_I (rest := []) C hI (c_X1_isOfKind l g Y ad N j_8 3 hj_8 st hr_9) (cwV 1 hts gX5_coin_X1_isOfKind rfl rfl rfl hv_X1_isOfKind ⟨Nat.le_of_ble_eq_true rfl, Nat.le_of_ble_eq_true rfl⟩) (w_recv C hI (7 + j_8) (at_V0 hj_8) rfl) rfl hl.1 rfl (Nat.le_of_ble_eq_true rfl) dX5_coin_37 (fun H locs hI => ?_)
      refine lv_if_ne (tgt := 50) hx hb dX5_coin_40 (by decide) (fun c_11 => ?_) (fun c_11 => ?_)
      · replace h := (if_neg c_11).symm.trans h
        refine lv_iload_n hx hb dX5_coin_50 rfl (lv_at hl 3 rfl) ?_
        refine lv_aload_n hx hb dX5_coin_51 rfl (lv_at hl 0 rfl) ?_
        refine w_get (v := .int (st 5 j_8)) C hinRX1 hI (7 + j_8) (at_V0 hj_8) rfl 5 (by decide) lk89 rfl rfl dX5_coin_52 ?_
        refine lv_icmp_le (tgt := 65) hx hb dX5_coin_55 (by decide) (fun c_12 => ?_) (fun c_12 => ?_)
        · replace h := (if_pos c_12).symm.trans h
          refine lv_aload_n hx hb dX5_coin_65 rfl (lv_at hl 0 rfl) ?_
          refine lv_aload_n hx hb dX5_coin_66 rfl (lv_at hl 0 rfl) ?_
          refine w_get (v := .int (st 4 j_8)) C hinRX1 hI (7 + j_8) (at_V0 hj_8) rfl 4 (by decide) lk86 rfl rfl dX5_coin_67 ?_
          refine lv_iload_n hx hb dX5_coin_70 rfl (lv_at hl 3 rfl) ?_
          refine w_mmax hx hb (hml.trans hl.1.symm) hown ml107 msmax mini mcmax (Nat.le_of_ble_eq_true rfl) (Nat.le_of_ble_eq_true rfl) dX5_coin_71 ?_
          refine w_put C hinRX1 tyX1 tyX1_ok nmX1 hI (7 + j_8) (at_V0 hj_8) rfl 4 h (st_V0_from hj_8) (by decide) (Nat.le_of_ble_eq_true rfl) lk86 ⟨rfl, rfl⟩ rfl rfl dX5_coin_74 (fun st_13 H locs h hI => ?_)
          refine lv_aload_n hx hb dX5_coin_77 rfl (lv_at hl 0 rfl) ?_
          refine w_get (v := .int (st_13 4 j_8)) C hinRX1 hI (7 + j_8) (at_V0 hj_8) rfl 4 (by decide) lk86 rfl rfl dX5_coin_78 ?_
          obtain ⟨rfl, rfl⟩ := ret2 h
          exact hret H locs _ ls hI dX5_coin_81
        · replace h := (if_neg c_12).symm.trans h
          refine lv_aload_n hx hb dX5_coin_58 rfl (lv_at hl 1 rfl) ?_
          refine lv_ldc (v := (-100003)) hx hb hown lc106 dX5_coin_59 ?_
          obtain ⟨r_15, st_16, hr_14, h⟩ := bd2_some h
          refine callV_I (rest := []) C hI (c_X5_finding l g Y ad (-100003 : Int32) st hr_14) (cwV 1 hts gX5_coin_X5_finding rfl rfl rfl hv_X5_finding ⟨Nat.le_of_ble_eq_true rfl, Nat.le_of_ble_eq_true rfl⟩) (w_recv C hI 0 at_C rfl) rfl hl.1 rfl (Nat.le_of_ble_eq_true rfl) dX5_coin_61 (fun H locs hI => ?_)
          obtain ⟨rfl, rfl⟩ := ret2 h
          exact hret H locs _ ls hI dX5_coin_64
      · replace h := (if_pos c_11).symm.trans h
        refine lv_aload_n hx hb dX5_coin_43 rfl (lv_at hl 1 rfl) ?_
        refine lv_ldc (v := (-100004)) hx hb hown lc73 dX5_coin_44 ?_
        obtain ⟨r_18, st_19, hr_17, h⟩ := bd2_some h
        refine callV_I (rest := []) C hI (c_X5_finding l g Y ad (-100004 : Int32) st hr_17) (cwV 1 hts gX5_coin_X5_finding rfl rfl rfl hv_X5_finding ⟨Nat.le_of_ble_eq_true rfl, Nat.le_of_ble_eq_true rfl⟩) (w_recv C hI 0 at_C rfl) rfl hl.1 rfl (Nat.le_of_ble_eq_true rfl) dX5_coin_46 (fun H locs hI => ?_)
        obtain ⟨rfl, rfl⟩ := ret2 h
        exact hret H locs _ ls hI dX5_coin_49
    · replace h := (if_pos c_7).symm.trans h
      refine lv_aload_n hx hb dX5_coin_18 rfl (lv_at hl 0 rfl) ?_
      refine lv_ldc (v := (-100001)) hx hb hown lc47 dX5_coin_19 ?_
      obtain ⟨r_21, st_22, hr_20, h⟩ := bd2_some h
      refine callV_I (rest := []) C hI (c_X5_finding l g Y ad (-100001 : Int32) st hr_20) (cwV 1 hts gX5_coin_X5_finding rfl rfl rfl hv_X5_finding ⟨Nat.le_of_ble_eq_true rfl, Nat.le_of_ble_eq_true rfl⟩) (w_recv C hI 0 at_C rfl) rfl hl.1 rfl (Nat.le_of_ble_eq_true rfl) dX5_coin_21 (fun H locs hI => ?_)
      obtain ⟨rfl, rfl⟩ := ret2 h
      exact hret H locs _ ls hI dX5_coin_24
theorem hv_X5_coin : yX5_coin.cls = RX5 ∧ yX5_coin.cls ≠ "java/lang/invoke/MethodHandle" ∧ yX5_coin.cls ≠ "java/lang/invoke/VarHandle" ∧ (parseMethodDescriptor yX5_coin.desc).map (fun d => d.parameters.length) = some 2 := by decide +kernel
/-! X5_cut -/
def rmX5_cut : Room := { frames := 3, cells := 0, slots := 0, locals := 68 }
def f_X5_cut (N : Nat) (st : St) (x1 : Int32) (x2 : Int32) (x3 : Bool) : Option (Int32 × St) := bnd (f_X2_holds st x1) fun r_1 => if b2i r_1 = 0 then bd2 (f_X5_finding st (-100001 : Int32)) fun r_4 st_5 => some (r_4, st_5) else bnd (f_X2_holds st x2) fun r_6 => if b2i r_6 = 0 then bd2 (f_X5_finding st (-100001 : Int32)) fun r_30 st_31 => some (r_30, st_31) else if x1 = x2 then bd2 (f_X5_finding st (-100003 : Int32)) fun r_27 st_28 => some (r_27, st_28) else if b2i x3 = 0 then bd2 (f_X2_setCut st x1 x2 x3) fun r_11 st_12 => if b2i r_11 = 0 then some (0, st_12) else some (1, st_12) else bd2 (f_X2_earlierThan N st x2) fun r_15 st_16 => bnd (f_X5_isIn r_15 x1) fun r_17 => if b2i r_17 = 0 then bd2 (f_X2_setCut st_16 x1 x2 x3) fun r_20 st_21 => if b2i r_20 = 0 then some (0, st_21) else some (1, st_21) else bd2 (f_X5_finding st_16 (-100007 : Int32)) fun r_24 st_25 => some (r_24, st_25)
set_option maxHeartbeats 4000000 in
set_option maxRecDepth 100000 in
theorem c_X5_cut (l : Launch) (g : GP) (Y : va_W) (ad : Nat → Nat) (N : Nat) (x1 : Int32) (x2 : Int32) (x3 : Bool)  (st : St) {r : Int32} {st' : St} (h : f_X5_cut N st x1 x2 x3 = some (r, st')) : MetI l yX5_cut wsX5_cut rmX5_cut g (wCX g Y ad) [.ref (ad 0), .int x1, .int x2, .int (b2i x3)] st (r) st' := by
  refine metI_of (cc := cX5_cut) (nL := 4) (ty := .int) (by decide) rfl (Nat.le_of_ble_eq_true rfl) rfl ?_
  intro p e s m below meth c Q A C hret H locs hI ls hl
  have C : Cx p s m _ c cX5_cut 4 wsX5_cut RX5 g A := C
  obtain ⟨hx, hb, hml, hown, hts⟩ := id C.1
  have hl : lv_has ls 4 [(0, .ref (ad 0)), (1, .int x1), (2, .int x2), (3, .int (b2i x3))] := hl
  have hinRX5 : ∀ w ∈ u_ws RX5 TX5 7, w ∈ wsX5_cut := by decide +kernel
  have lk12 := hts (.fieldLink RX5 12 "GraveRows" "ground" "LGraveRows$Ground;") (by decide +kernel)
  have lc47 := hts (.constant RX5 47 (-100001)) (by decide +kernel)
  have lc120 := hts (.constant RX5 120 (-100007)) (by decide +kernel)
  have lc106 := hts (.constant RX5 106 (-100003)) (by decide +kernel)
  rw [f_X5_cut] at h
  refine lv_aload_n hx hb dX5_cut_0 rfl (lv_at hl 0 rfl) ?_
  refine w_get (v := .ref (ad 1)) C hinRX5 hI 0 at_C rfl 0 (by decide) lk12 rfl rfl dX5_cut_1 ?_
  refine lv_iload_n hx hb dX5_cut_4 rfl (lv_at hl 1 rfl) ?_
  refine callV_I (rest := []) C hI (c_X2_holds l g Y ad x1 st) (cwV 1 hts gX5_cut_X2_holds rfl rfl rfl hv_X2_holds ⟨Nat.le_of_ble_eq_true rfl, Nat.le_of_ble_eq_true rfl⟩) (w_recv C hI 1 at_G0 rfl) rfl hl.1 rfl (Nat.le_of_ble_eq_true rfl) dX5_cut_5 (fun H locs hI => ?_)
  refine gen_b h (fun r_1 h => ?_)
  refine lv_if_eq (tgt := 22) hx hb dX5_cut_8 (by decide) (fun c_2 => ?_) (fun c_2 => ?_)
  · replace h := (if_pos c_2).symm.trans h
    refine lv_aload_n hx hb dX5_cut_22 rfl (lv_at hl 0 rfl) ?_
    refine lv_ldc (v := (-100001)) hx hb hown lc47 dX5_cut_23 ?_
    obtain ⟨r_4, st_5, hr_3, h⟩ := bd2_some h
    refine callV_I (rest := []) C hI (c_X5_finding l g Y ad (-100001 : Int32) st hr_3) (cwV 1 hts gX5_cut_X5_finding rfl rfl rfl hv_X5_finding ⟨Nat.le_of_ble_eq_true rfl, Nat.le_of_ble_eq_true rfl⟩) (w_recv C hI 0 at_C rfl) rfl hl.1 rfl (Nat.le_of_ble_eq_true rfl) dX5_cut_25 (fun H locs hI => ?_)
    obtain ⟨rfl, rfl⟩ := ret2 h
    exact hret H locs _ ls hI dX5_cut_28
  · replace h := (if_neg c_2).symm.trans h
    refine lv_aload_n hx hb dX5_cut_11 rfl (lv_at hl 0 rfl) ?_
    refine w_get (v := .ref (ad 1)) C hinRX5 hI 0 at_C rfl 0 (by decide) lk12 rfl rfl dX5_cut_12 ?_
    refine lv_iload_n hx hb dX5_cut_15 rfl (lv_at hl 2 rfl) ?_
    refine callV_I (rest := []) C hI (c_X2_holds l g Y ad x2 st) (cwV 1 hts gX5_cut_X2_holds rfl rfl rfl hv_X2_holds ⟨Nat.le_of_ble_eq_true rfl, Nat.le_of_ble_eq_true rfl⟩) (w_recv C hI 1 at_G0 rfl) rfl hl.1 rfl (Nat.le_of_ble_eq_true rfl) dX5_cut_16 (fun H locs hI => ?_)
    refine gen_b h (fun r_6 h => ?_)
    refine lv_if_ne (tgt := 29) hx hb dX5_cut_19 (by decide) (fun c_7 => ?_) (fun c_7 => ?_)
    · replace h := (if_neg c_7).symm.trans h
      refine lv_iload_n hx hb dX5_cut_29 rfl (lv_at hl 1 rfl) ?_
      refine lv_iload_n hx hb dX5_cut_30 rfl (lv_at hl 2 rfl) ?_
      refine lv_icmp_ne (tgt := 41) hx hb dX5_cut_31 (by decide) (fun c_8 => ?_) (fun c_8 => ?_)
      · replace h := (if_neg c_8).symm.trans h
        refine lv_iload_n hx hb dX5_cut_41 rfl (lv_at hl 3 rfl) ?_
        refine lv_if_eq (tgt := 67) hx hb dX5_cut_42 (by decide) (fun c_9 => ?_) (fun c_9 => ?_)
        · replace h := (if_pos c_9).symm.trans h
          refine lv_aload_n hx hb dX5_cut_67 rfl (lv_at hl 0 rfl) ?_
          refine w_get (v := .ref (ad 1)) C hinRX5 hI 0 at_C rfl 0 (by decide) lk12 rfl rfl dX5_cut_68 ?_
          refine lv_iload_n hx hb dX5_cut_71 rfl (lv_at hl 1 rfl) ?_
          refine lv_iload_n hx hb dX5_cut_72 rfl (lv_at hl 2 rfl) ?_
          refine lv_iload_n hx hb dX5_cut_73 rfl (lv_at hl 3 rfl) ?_
          obtain ⟨r_11, st_12, hr_10, h⟩ := bd2_some h
          refine callV_I (rest := []) C hI (c_X2_setCut l g Y ad x1 x2 x3 st hr_10) (cwV 3 hts gX5_cut_X2_setCut rfl rfl rfl hv_X2_setCut ⟨Nat.le_of_ble_eq_true rfl, Nat.le_of_ble_eq_true rfl⟩) (w_recv C hI 1 at_G0 rfl) rfl hl.1 rfl (Nat.le_of_ble_eq_true rfl) dX5_cut_74 (fun H locs hI => ?_)
          refine lv_if_eq (tgt := 84) hx hb dX5_cut_77 (by decide) (fun c_13 => ?_) (fun c_13 => ?_)
          · replace h := (if_pos c_13).symm.trans h
            refine lv_iconst (v := 0) hx hb dX5_cut_84 (by decide) ?_
            obtain ⟨rfl, rfl⟩ := ret2 h
            exact hret H locs _ ls hI dX5_cut_85
          · replace h := (if_neg c_13).symm.trans h
            refine lv_iconst (v := 1) hx hb dX5_cut_80 (by decide) ?_
            refine lv_goto (tgt := 85) hx hb dX5_cut_81 (by decide) ?_
            obtain ⟨rfl, rfl⟩ := ret2 h
            exact hret H locs _ ls hI dX5_cut_85
        · replace h := (if_neg c_9).symm.trans h
          refine lv_aload_n hx hb dX5_cut_45 rfl (lv_at hl 0 rfl) ?_
          refine w_get (v := .ref (ad 1)) C hinRX5 hI 0 at_C rfl 0 (by decide) lk12 rfl rfl dX5_cut_46 ?_
          refine lv_iload_n hx hb dX5_cut_49 rfl (lv_at hl 2 rfl) ?_
          obtain ⟨r_15, st_16, hr_14, h⟩ := bd2_some h
          refine callV_I (rest := []) C hI (c_X2_earlierThan l g Y ad N x2 st hr_14) (cwV 1 hts gX5_cut_X2_earlierThan rfl rfl rfl hv_X2_earlierThan ⟨Nat.le_of_ble_eq_true rfl, Nat.le_of_ble_eq_true rfl⟩) (w_recv C hI 1 at_G0 rfl) rfl hl.1 rfl (Nat.le_of_ble_eq_true rfl) dX5_cut_50 (fun H locs hI => ?_)
          refine lv_iload_n hx hb dX5_cut_53 rfl (lv_at hl 1 rfl) ?_
          refine callS_S (rest := []) C.1 (c_X5_isIn l r_15 x1) (va_cwS 2 hts gX5_cut_X5_isIn rfl rfl rfl hd_X5_isIn ⟨Nat.le_of_ble_eq_true rfl, Nat.le_of_ble_eq_true rfl⟩) rfl hl.1 rfl (Nat.le_of_ble_eq_true rfl) dX5_cut_54 ?_
          refine gen_b h (fun r_17 h => ?_)
          refine lv_if_eq (tgt := 67) hx hb dX5_cut_57 (by decide) (fun c_18 => ?_) (fun c_18 => ?_)
          · replace h := (if_pos c_18).symm.trans h
            refine lv_aload_n hx hb dX5_cut_67 rfl (lv_at hl 0 rfl) ?_
            refine w_get (v := .ref (ad 1)) C hinRX5 hI 0 at_C rfl 0 (by decide) lk12 rfl rfl dX5_cut_68 ?_
            refine lv_iload_n hx hb dX5_cut_71 rfl (lv_at hl 1 rfl) ?_
            refine lv_iload_n hx hb dX5_cut_72 rfl (lv_at hl 2 rfl) ?_
            refine lv_iload_n hx hb dX5_cut_73 rfl (lv_at hl 3 rfl) ?_
            obtain ⟨r_20, st_21, hr_19, h⟩ := bd2_some h
            refine callV_I (rest := []) C hI (c_X2_setCut l g Y ad x1 x2 x3 st_16 hr_19) (cwV 3 hts gX5_cut_X2_setCut rfl rfl rfl hv_X2_setCut ⟨Nat.le_of_ble_eq_true rfl, Nat.le_of_ble_eq_true rfl⟩) (w_recv C hI 1 at_G0 rfl) rfl hl.1 rfl (Nat.le_of_ble_eq_true rfl) dX5_cut_74 (fun H locs hI => ?_)
            refine lv_if_eq (tgt := 84) hx hb dX5_cut_77 (by decide) (fun c_22 => ?_) (fun c_22 => ?_)
            · replace h := (if_pos c_22).symm.trans h
              refine lv_iconst (v := 0) hx hb dX5_cut_84 (by decide) ?_
              obtain ⟨rfl, rfl⟩ := ret2 h
              exact hret H locs _ ls hI dX5_cut_85
            · replace h := (if_neg c_22).symm.trans h
              refine lv_iconst (v := 1) hx hb dX5_cut_80 (by decide) ?_
              refine lv_goto (tgt := 85) hx hb dX5_cut_81 (by decide) ?_
              obtain ⟨rfl, rfl⟩ := ret2 h
              exact hret H locs _ ls hI dX5_cut_85
          · replace h := (if_neg c_18).symm.trans h
            refine lv_aload_n hx hb dX5_cut_60 rfl (lv_at hl 0 rfl) ?_
            refine lv_ldc (v := (-100007)) hx hb hown lc120 dX5_cut_61 ?_
            obtain ⟨r_24, st_25, hr_23, h⟩ := bd2_some h
            refine callV_I (rest := []) C hI (c_X5_finding l g Y ad (-100007 : Int32) st_16 hr_23) (cwV 1 hts gX5_cut_X5_finding rfl rfl rfl hv_X5_finding ⟨Nat.le_of_ble_eq_true rfl, Nat.le_of_ble_eq_true rfl⟩) (w_recv C hI 0 at_C rfl) rfl hl.1 rfl (Nat.le_of_ble_eq_true rfl) dX5_cut_63 (fun H locs hI => ?_)
            obtain ⟨rfl, rfl⟩ := ret2 h
            exact hret H locs _ ls hI dX5_cut_66
      · replace h := (if_pos c_8).symm.trans h
        refine lv_aload_n hx hb dX5_cut_34 rfl (lv_at hl 0 rfl) ?_
        refine lv_ldc (v := (-100003)) hx hb hown lc106 dX5_cut_35 ?_
        obtain ⟨r_27, st_28, hr_26, h⟩ := bd2_some h
        refine callV_I (rest := []) C hI (c_X5_finding l g Y ad (-100003 : Int32) st hr_26) (cwV 1 hts gX5_cut_X5_finding rfl rfl rfl hv_X5_finding ⟨Nat.le_of_ble_eq_true rfl, Nat.le_of_ble_eq_true rfl⟩) (w_recv C hI 0 at_C rfl) rfl hl.1 rfl (Nat.le_of_ble_eq_true rfl) dX5_cut_37 (fun H locs hI => ?_)
        obtain ⟨rfl, rfl⟩ := ret2 h
        exact hret H locs _ ls hI dX5_cut_40
    · replace h := (if_pos c_7).symm.trans h
      refine lv_aload_n hx hb dX5_cut_22 rfl (lv_at hl 0 rfl) ?_
      refine lv_ldc (v := (-100001)) hx hb hown lc47 dX5_cut_23 ?_
      obtain ⟨r_30, st_31, hr_29, h⟩ := bd2_some h
      refine callV_I (rest := []) C hI (c_X5_finding l g Y ad (-100001 : Int32) st hr_29) (cwV 1 hts gX5_cut_X5_finding rfl rfl rfl hv_X5_finding ⟨Nat.le_of_ble_eq_true rfl, Nat.le_of_ble_eq_true rfl⟩) (w_recv C hI 0 at_C rfl) rfl hl.1 rfl (Nat.le_of_ble_eq_true rfl) dX5_cut_25 (fun H locs hI => ?_)
      obtain ⟨rfl, rfl⟩ := ret2 h
      exact hret H locs _ ls hI dX5_cut_28
theorem hv_X5_cut : yX5_cut.cls = RX5 ∧ yX5_cut.cls ≠ "java/lang/invoke/MethodHandle" ∧ yX5_cut.cls ≠ "java/lang/invoke/VarHandle" ∧ (parseMethodDescriptor yX5_cut.desc).map (fun d => d.parameters.length) = some 3 := by decide +kernel
/-! X5_later -/
def rmX5_later : Room := { frames := 3, cells := 0, slots := 0, locals := 68 }
def f_X5_later (N : Nat) (st : St) (x1 : Int32) (x2 : Int32) : Option (Int32 × St) := bnd (f_X2_holds st x1) fun r_1 => if b2i r_1 = 0 then bd2 (f_X5_finding st (-100001 : Int32)) fun r_4 st_5 => some (r_4, st_5) else bnd (f_X2_holds st x2) fun r_6 => if b2i r_6 = 0 then bd2 (f_X5_finding st (-100001 : Int32)) fun r_14 st_15 => some (r_14, st_15) else bd2 (f_X2_earlierThan N st x1) fun r_9 st_10 => bnd (f_X5_isIn r_9 x2) fun r_11 => if b2i r_11 = 0 then some (0, st_10) else some (1, st_10)
set_option maxHeartbeats 4000000 in
set_option maxRecDepth 100000 in
theorem c_X5_later (l : Launch) (g : GP) (Y : va_W) (ad : Nat → Nat) (N : Nat) (x1 : Int32) (x2 : Int32)  (st : St) {r : Int32} {st' : St} (h : f_X5_later N st x1 x2 = some (r, st')) : MetI l yX5_later wsX5_later rmX5_later g (wCX g Y ad) [.ref (ad 0), .int x1, .int x2] st (r) st' := by
  refine metI_of (cc := cX5_later) (nL := 3) (ty := .int) (by decide) rfl (Nat.le_of_ble_eq_true rfl) rfl ?_
  intro p e s m below meth c Q A C hret H locs hI ls hl
  have C : Cx p s m _ c cX5_later 3 wsX5_later RX5 g A := C
  obtain ⟨hx, hb, hml, hown, hts⟩ := id C.1
  have hl : lv_has ls 3 [(0, .ref (ad 0)), (1, .int x1), (2, .int x2)] := hl
  have hinRX5 : ∀ w ∈ u_ws RX5 TX5 7, w ∈ wsX5_later := by decide +kernel
  have lk12 := hts (.fieldLink RX5 12 "GraveRows" "ground" "LGraveRows$Ground;") (by decide +kernel)
  have lc47 := hts (.constant RX5 47 (-100001)) (by decide +kernel)
  rw [f_X5_later] at h
  refine lv_aload_n hx hb dX5_later_0 rfl (lv_at hl 0 rfl) ?_
  refine w_get (v := .ref (ad 1)) C hinRX5 hI 0 at_C rfl 0 (by decide) lk12 rfl rfl dX5_later_1 ?_
  refine lv_iload_n hx hb dX5_later_4 rfl (lv_at hl 1 rfl) ?_
  refine callV_I (rest := []) C hI (c_X2_holds l g Y ad x1 st) (cwV 1 hts gX5_later_X2_holds rfl rfl rfl hv_X2_holds ⟨Nat.le_of_ble_eq_true rfl, Nat.le_of_ble_eq_true rfl⟩) (w_recv C hI 1 at_G0 rfl) rfl hl.1 rfl (Nat.le_of_ble_eq_true rfl) dX5_later_5 (fun H locs hI => ?_)
  refine gen_b h (fun r_1 h => ?_)
  refine lv_if_eq (tgt := 22) hx hb dX5_later_8 (by decide) (fun c_2 => ?_) (fun c_2 => ?_)
  · replace h := (if_pos c_2).symm.trans h
    refine lv_aload_n hx hb dX5_later_22 rfl (lv_at hl 0 rfl) ?_
    refine lv_ldc (v := (-100001)) hx hb hown lc47 dX5_later_23 ?_
    obtain ⟨r_4, st_5, hr_3, h⟩ := bd2_some h
    refine callV_I (rest := []) C hI (c_X5_finding l g Y ad (-100001 : Int32) st hr_3) (cwV 1 hts gX5_later_X5_finding rfl rfl rfl hv_X5_finding ⟨Nat.le_of_ble_eq_true rfl, Nat.le_of_ble_eq_true rfl⟩) (w_recv C hI 0 at_C rfl) rfl hl.1 rfl (Nat.le_of_ble_eq_true rfl) dX5_later_25 (fun H locs hI => ?_)
    obtain ⟨rfl, rfl⟩ := ret2 h
    exact hret H locs _ ls hI dX5_later_28
  · replace h := (if_neg c_2).symm.trans h
    refine lv_aload_n hx hb dX5_later_11 rfl (lv_at hl 0 rfl) ?_
    refine w_get (v := .ref (ad 1)) C hinRX5 hI 0 at_C rfl 0 (by decide) lk12 rfl rfl dX5_later_12 ?_
    refine lv_iload_n hx hb dX5_later_15 rfl (lv_at hl 2 rfl) ?_
    refine callV_I (rest := []) C hI (c_X2_holds l g Y ad x2 st) (cwV 1 hts gX5_later_X2_holds rfl rfl rfl hv_X2_holds ⟨Nat.le_of_ble_eq_true rfl, Nat.le_of_ble_eq_true rfl⟩) (w_recv C hI 1 at_G0 rfl) rfl hl.1 rfl (Nat.le_of_ble_eq_true rfl) dX5_later_16 (fun H locs hI => ?_)
    refine gen_b h (fun r_6 h => ?_)
    refine lv_if_ne (tgt := 29) hx hb dX5_later_19 (by decide) (fun c_7 => ?_) (fun c_7 => ?_)
    · replace h := (if_neg c_7).symm.trans h
      refine lv_aload_n hx hb dX5_later_29 rfl (lv_at hl 0 rfl) ?_
      refine w_get (v := .ref (ad 1)) C hinRX5 hI 0 at_C rfl 0 (by decide) lk12 rfl rfl dX5_later_30 ?_
      refine lv_iload_n hx hb dX5_later_33 rfl (lv_at hl 1 rfl) ?_
      obtain ⟨r_9, st_10, hr_8, h⟩ := bd2_some h
      refine callV_I (rest := []) C hI (c_X2_earlierThan l g Y ad N x1 st hr_8) (cwV 1 hts gX5_later_X2_earlierThan rfl rfl rfl hv_X2_earlierThan ⟨Nat.le_of_ble_eq_true rfl, Nat.le_of_ble_eq_true rfl⟩) (w_recv C hI 1 at_G0 rfl) rfl hl.1 rfl (Nat.le_of_ble_eq_true rfl) dX5_later_34 (fun H locs hI => ?_)
      refine lv_iload_n hx hb dX5_later_37 rfl (lv_at hl 2 rfl) ?_
      refine callS_S (rest := []) C.1 (c_X5_isIn l r_9 x2) (va_cwS 2 hts gX5_later_X5_isIn rfl rfl rfl hd_X5_isIn ⟨Nat.le_of_ble_eq_true rfl, Nat.le_of_ble_eq_true rfl⟩) rfl hl.1 rfl (Nat.le_of_ble_eq_true rfl) dX5_later_38 ?_
      refine gen_b h (fun r_11 h => ?_)
      refine lv_if_eq (tgt := 48) hx hb dX5_later_41 (by decide) (fun c_12 => ?_) (fun c_12 => ?_)
      · replace h := (if_pos c_12).symm.trans h
        refine lv_iconst (v := 0) hx hb dX5_later_48 (by decide) ?_
        obtain ⟨rfl, rfl⟩ := ret2 h
        exact hret H locs _ ls hI dX5_later_49
      · replace h := (if_neg c_12).symm.trans h
        refine lv_iconst (v := 1) hx hb dX5_later_44 (by decide) ?_
        refine lv_goto (tgt := 49) hx hb dX5_later_45 (by decide) ?_
        obtain ⟨rfl, rfl⟩ := ret2 h
        exact hret H locs _ ls hI dX5_later_49
    · replace h := (if_pos c_7).symm.trans h
      refine lv_aload_n hx hb dX5_later_22 rfl (lv_at hl 0 rfl) ?_
      refine lv_ldc (v := (-100001)) hx hb hown lc47 dX5_later_23 ?_
      obtain ⟨r_14, st_15, hr_13, h⟩ := bd2_some h
      refine callV_I (rest := []) C hI (c_X5_finding l g Y ad (-100001 : Int32) st hr_13) (cwV 1 hts gX5_later_X5_finding rfl rfl rfl hv_X5_finding ⟨Nat.le_of_ble_eq_true rfl, Nat.le_of_ble_eq_true rfl⟩) (w_recv C hI 0 at_C rfl) rfl hl.1 rfl (Nat.le_of_ble_eq_true rfl) dX5_later_25 (fun H locs hI => ?_)
      obtain ⟨rfl, rfl⟩ := ret2 h
      exact hret H locs _ ls hI dX5_later_28
theorem hv_X5_later : yX5_later.cls = RX5 ∧ yX5_later.cls ≠ "java/lang/invoke/MethodHandle" ∧ yX5_later.cls ≠ "java/lang/invoke/VarHandle" ∧ (parseMethodDescriptor yX5_later.desc).map (fun d => d.parameters.length) = some 2 := by decide +kernel
/-! X5_fill -/
def rmX5_fill : Room := { frames := 1, cells := 0, slots := 0, locals := 21 }
def f_X5_fill (N : Nat) (st : St) : Option (Int32 × St) := if st 13 0 = 0 then bd2 (f_X5_finding st (-100006 : Int32)) fun r_5 st_6 => some (r_5, st_6) else bd1 (f_X2_closeLast N st) fun st_3 => some (st_3 13 0, st_3)
set_option maxHeartbeats 4000000 in
set_option maxRecDepth 100000 in
theorem c_X5_fill (l : Launch) (g : GP) (Y : va_W) (ad : Nat → Nat) (N : Nat)  (st : St) {r : Int32} {st' : St} (h : f_X5_fill N st = some (r, st')) : MetI l yX5_fill wsX5_fill rmX5_fill g (wCX g Y ad) [.ref (ad 0)] st (r) st' := by
  refine metI_of (cc := cX5_fill) (nL := 1) (ty := .int) (by decide) rfl (Nat.le_of_ble_eq_true rfl) rfl ?_
  intro p e s m below meth c Q A C hret H locs hI ls hl
  have C : Cx p s m _ c cX5_fill 1 wsX5_fill RX5 g A := C
  obtain ⟨hx, hb, hml, hown, hts⟩ := id C.1
  have hl : lv_has ls 1 [(0, .ref (ad 0))] := hl
  have hinRX5 : ∀ w ∈ u_ws RX5 TX5 7, w ∈ wsX5_fill := by decide +kernel
  have lk12 := hts (.fieldLink RX5 12 "GraveRows" "ground" "LGraveRows$Ground;") (by decide +kernel)
  have hinRX2 : ∀ w ∈ u_ws RX2 TX2 7, w ∈ wsX5_fill := by decide +kernel
  have lk52 := hts (.fieldLink RX5 52 "GraveRows$Ground" "size" "I") (by decide +kernel)
  have lc125 := hts (.constant RX5 125 (-100006)) (by decide +kernel)
  rw [f_X5_fill] at h
  refine lv_aload_n hx hb dX5_fill_0 rfl (lv_at hl 0 rfl) ?_
  refine w_get (v := .ref (ad 1)) C hinRX5 hI 0 at_C rfl 0 (by decide) lk12 rfl rfl dX5_fill_1 ?_
  refine w_get (v := .int (st 13 0)) C hinRX2 hI 1 at_G0 rfl 5 (by decide) lk52 rfl rfl dX5_fill_4 ?_
  refine lv_if_ne (tgt := 17) hx hb dX5_fill_7 (by decide) (fun c_1 => ?_) (fun c_1 => ?_)
  · replace h := (if_neg c_1).symm.trans h
    refine lv_aload_n hx hb dX5_fill_17 rfl (lv_at hl 0 rfl) ?_
    refine w_get (v := .ref (ad 1)) C hinRX5 hI 0 at_C rfl 0 (by decide) lk12 rfl rfl dX5_fill_18 ?_
    obtain ⟨st_3, hr_2, h⟩ := bd1_some h
    refine callV_V (rest := []) C hI (c_X2_closeLast l g Y ad N st hr_2) (cwV 0 hts gX5_fill_X2_closeLast rfl rfl rfl hv_X2_closeLast ⟨Nat.le_of_ble_eq_true rfl, Nat.le_of_ble_eq_true rfl⟩) (w_recv C hI 1 at_G0 rfl) rfl hl.1 rfl (Nat.le_of_ble_eq_true rfl) dX5_fill_21 (fun H locs hI => ?_)
    refine lv_aload_n hx hb dX5_fill_24 rfl (lv_at hl 0 rfl) ?_
    refine w_get (v := .ref (ad 1)) C hinRX5 hI 0 at_C rfl 0 (by decide) lk12 rfl rfl dX5_fill_25 ?_
    refine w_get (v := .int (st_3 13 0)) C hinRX2 hI 1 at_G0 rfl 5 (by decide) lk52 rfl rfl dX5_fill_28 ?_
    obtain ⟨rfl, rfl⟩ := ret2 h
    exact hret H locs _ ls hI dX5_fill_31
  · replace h := (if_pos c_1).symm.trans h
    refine lv_aload_n hx hb dX5_fill_10 rfl (lv_at hl 0 rfl) ?_
    refine lv_ldc (v := (-100006)) hx hb hown lc125 dX5_fill_11 ?_
    obtain ⟨r_5, st_6, hr_4, h⟩ := bd2_some h
    refine callV_I (rest := []) C hI (c_X5_finding l g Y ad (-100006 : Int32) st hr_4) (cwV 1 hts gX5_fill_X5_finding rfl rfl rfl hv_X5_finding ⟨Nat.le_of_ble_eq_true rfl, Nat.le_of_ble_eq_true rfl⟩) (w_recv C hI 0 at_C rfl) rfl hl.1 rfl (Nat.le_of_ble_eq_true rfl) dX5_fill_13 (fun H locs hI => ?_)
    obtain ⟨rfl, rfl⟩ := ret2 h
    exact hret H locs _ ls hI dX5_fill_16
theorem hv_X5_fill : yX5_fill.cls = RX5 ∧ yX5_fill.cls ≠ "java/lang/invoke/MethodHandle" ∧ yX5_fill.cls ≠ "java/lang/invoke/VarHandle" ∧ (parseMethodDescriptor yX5_fill.desc).map (fun d => d.parameters.length) = some 0 := by decide +kernel
/-! X5_sheet -/
def rmX5_sheet : Room := { frames := 1, cells := 0, slots := 0, locals := 23 }
def f_X5_sheet (N : Nat) (st : St) (x1 : Int32) (x2 : Int32) (x3 : Int32) : Option (Int32 × St) := bnd (f_X5_isSheet x1) fun r_1 => if b2i r_1 = 0 then bd2 (f_X5_finding st (-100001 : Int32)) fun r_4 st_5 => some (r_4, st_5) else bnd (f_X5_isWidth x2) fun r_6 => if b2i r_6 = 0 then bd2 (f_X5_finding st (-100001 : Int32)) fun r_21 st_22 => some (r_21, st_22) else if 0 ≤ x3 then if x3 ≤ 12 then ck 4 x1 fun j_10 => bd1 (f_X4_become N st j_10 x2 x3) fun st_12 => ck 4 x1 fun j_13 => some (st_12 37 j_13, st_12) else bd2 (f_X5_finding st (-100001 : Int32)) fun r_15 st_16 => some (r_15, st_16) else bd2 (f_X5_finding st (-100003 : Int32)) fun r_18 st_19 => some (r_18, st_19)
set_option maxHeartbeats 4000000 in
set_option maxRecDepth 100000 in
theorem c_X5_sheet (l : Launch) (g : GP) (Y : va_W) (ad : Nat → Nat) (N : Nat) (x1 : Int32) (x2 : Int32) (x3 : Int32)  (st : St) {r : Int32} {st' : St} (h : f_X5_sheet N st x1 x2 x3 = some (r, st')) : MetI l yX5_sheet wsX5_sheet rmX5_sheet g (wCX g Y ad) [.ref (ad 0), .int x1, .int x2, .int x3] st (r) st' := by
  refine metI_of (cc := cX5_sheet) (nL := 4) (ty := .int) (by decide) rfl (Nat.le_of_ble_eq_true rfl) rfl ?_
  intro p e s m below meth c Q A C hret H locs hI ls hl
  have C : Cx p s m _ c cX5_sheet 4 wsX5_sheet RX5 g A := C
  obtain ⟨hx, hb, hml, hown, hts⟩ := id C.1
  have hl : lv_has ls 4 [(0, .ref (ad 0)), (1, .int x1), (2, .int x2), (3, .int x3)] := hl
  have lc47 := hts (.constant RX5 47 (-100001)) (by decide +kernel)
  have hinRX5 : ∀ w ∈ u_ws RX5 TX5 7, w ∈ wsX5_sheet := by decide +kernel
  have lk21 := hts (.fieldLink RX5 21 "GraveRows" "sheets" "[LGraveRows$Sheet;") (by decide +kernel)
  have hinRX4 : ∀ w ∈ u_ws RX4 TX4 3, w ∈ wsX5_sheet := by decide +kernel
  have lk139 := hts (.fieldLink RX5 139 "GraveRows$Sheet" "length" "I") (by decide +kernel)
  have lc106 := hts (.constant RX5 106 (-100003)) (by decide +kernel)
  rw [f_X5_sheet] at h
  refine lv_iload_n hx hb dX5_sheet_0 rfl (lv_at hl 1 rfl) ?_
  refine callS_S (rest := []) C.1 (c_X5_isSheet l x1) (va_cwS 1 hts gX5_sheet_X5_isSheet rfl rfl rfl hd_X5_isSheet ⟨Nat.le_of_ble_eq_true rfl, Nat.le_of_ble_eq_true rfl⟩) rfl hl.1 rfl (Nat.le_of_ble_eq_true rfl) dX5_sheet_1 ?_
  refine gen_b h (fun r_1 h => ?_)
  refine lv_if_eq (tgt := 14) hx hb dX5_sheet_4 (by decide) (fun c_2 => ?_) (fun c_2 => ?_)
  · replace h := (if_pos c_2).symm.trans h
    refine lv_aload_n hx hb dX5_sheet_14 rfl (lv_at hl 0 rfl) ?_
    refine lv_ldc (v := (-100001)) hx hb hown lc47 dX5_sheet_15 ?_
    obtain ⟨r_4, st_5, hr_3, h⟩ := bd2_some h
    refine callV_I (rest := []) C hI (c_X5_finding l g Y ad (-100001 : Int32) st hr_3) (cwV 1 hts gX5_sheet_X5_finding rfl rfl rfl hv_X5_finding ⟨Nat.le_of_ble_eq_true rfl, Nat.le_of_ble_eq_true rfl⟩) (w_recv C hI 0 at_C rfl) rfl hl.1 rfl (Nat.le_of_ble_eq_true rfl) dX5_sheet_17 (fun H locs hI => ?_)
    obtain ⟨rfl, rfl⟩ := ret2 h
    exact hret H locs _ ls hI dX5_sheet_20
  · replace h := (if_neg c_2).symm.trans h
    refine lv_iload_n hx hb dX5_sheet_7 rfl (lv_at hl 2 rfl) ?_
    refine callS_S (rest := []) C.1 (c_X5_isWidth l x2) (va_cwS 1 hts gX5_sheet_X5_isWidth rfl rfl rfl hd_X5_isWidth ⟨Nat.le_of_ble_eq_true rfl, Nat.le_of_ble_eq_true rfl⟩) rfl hl.1 rfl (Nat.le_of_ble_eq_true rfl) dX5_sheet_8 ?_
    refine gen_b h (fun r_6 h => ?_)
    refine lv_if_ne (tgt := 21) hx hb dX5_sheet_11 (by decide) (fun c_7 => ?_) (fun c_7 => ?_)
    · replace h := (if_neg c_7).symm.trans h
      refine lv_iload_n hx hb dX5_sheet_21 rfl (lv_at hl 3 rfl) ?_
      refine lv_if_ge (tgt := 32) hx hb dX5_sheet_22 (by decide) (fun c_8 => ?_) (fun c_8 => ?_)
      · replace h := (if_pos c_8).symm.trans h
        refine lv_iload_n hx hb dX5_sheet_32 rfl (lv_at hl 3 rfl) ?_
        refine lv_bipush (v := 12) hx hb dX5_sheet_33 (by decide) ?_
        refine lv_icmp_le (tgt := 45) hx hb dX5_sheet_35 (by decide) (fun c_9 => ?_) (fun c_9 => ?_)
        · replace h := (if_pos c_9).symm.trans h
          refine lv_aload_n hx hb dX5_sheet_45 rfl (lv_at hl 0 rfl) ?_
          refine w_get (v := .ref (ad 33)) C hinRX5 hI 0 at_C rfl 2 (by decide) lk21 rfl rfl dX5_sheet_46 ?_
          refine lv_iload_n hx hb dX5_sheet_49 rfl (lv_at hl 1 rfl) ?_
          refine w_ald (t0 := 3) (fa := fun j => ad (34 + j)) C hI 33 ra_33 rfl (fun _ => rfl) h dX5_sheet_50 (fun j_10 hj_10 h => ?_)
          refine lv_iload_n hx hb dX5_sheet_51 rfl (lv_at hl 2 rfl) ?_
          refine lv_iload_n hx hb dX5_sheet_52 rfl (lv_at hl 3 rfl) ?_
          obtain ⟨st_12, hr_11, h⟩ := bd1_some h
          refine callV_V (rest := []) C hI (c_X4_become l g Y ad N j_10 x2 x3 hj_10 st hr_11) (cwV 2 hts gX5_sheet_X4_become rfl rfl rfl hv_X4_become ⟨Nat.le_of_ble_eq_true rfl, Nat.le_of_ble_eq_true rfl⟩) (w_recv C hI (34 + j_10) (at_S hj_10) rfl) rfl hl.1 rfl (Nat.le_of_ble_eq_true rfl) dX5_sheet_53 (fun H locs hI => ?_)
          refine lv_aload_n hx hb dX5_sheet_56 rfl (lv_at hl 0 rfl) ?_
          refine w_get (v := .ref (ad 33)) C hinRX5 hI 0 at_C rfl 2 (by decide) lk21 rfl rfl dX5_sheet_57 ?_
          refine lv_iload_n hx hb dX5_sheet_60 rfl (lv_at hl 1 rfl) ?_
          refine w_ald (t0 := 3) (fa := fun j => ad (34 + j)) C hI 33 ra_33 rfl (fun _ => rfl) h dX5_sheet_61 (fun j_13 hj_13 h => ?_)
          refine w_get (v := .int (st_12 37 j_13)) C hinRX4 hI (34 + j_13) (at_S hj_13) rfl 2 (by decide) lk139 rfl rfl dX5_sheet_62 ?_
          obtain ⟨rfl, rfl⟩ := ret2 h
          exact hret H locs _ ls hI dX5_sheet_65
        · replace h := (if_neg c_9).symm.trans h
          refine lv_aload_n hx hb dX5_sheet_38 rfl (lv_at hl 0 rfl) ?_
          refine lv_ldc (v := (-100001)) hx hb hown lc47 dX5_sheet_39 ?_
          obtain ⟨r_15, st_16, hr_14, h⟩ := bd2_some h
          refine callV_I (rest := []) C hI (c_X5_finding l g Y ad (-100001 : Int32) st hr_14) (cwV 1 hts gX5_sheet_X5_finding rfl rfl rfl hv_X5_finding ⟨Nat.le_of_ble_eq_true rfl, Nat.le_of_ble_eq_true rfl⟩) (w_recv C hI 0 at_C rfl) rfl hl.1 rfl (Nat.le_of_ble_eq_true rfl) dX5_sheet_41 (fun H locs hI => ?_)
          obtain ⟨rfl, rfl⟩ := ret2 h
          exact hret H locs _ ls hI dX5_sheet_44
      · replace h := (if_neg c_8).symm.trans h
        refine lv_aload_n hx hb dX5_sheet_25 rfl (lv_at hl 0 rfl) ?_
        refine lv_ldc (v := (-100003)) hx hb hown lc106 dX5_sheet_26 ?_
        obtain ⟨r_18, st_19, hr_17, h⟩ := bd2_some h
        refine callV_I (rest := []) C hI (c_X5_finding l g Y ad (-100003 : Int32) st hr_17) (cwV 1 hts gX5_sheet_X5_finding rfl rfl rfl hv_X5_finding ⟨Nat.le_of_ble_eq_true rfl, Nat.le_of_ble_eq_true rfl⟩) (w_recv C hI 0 at_C rfl) rfl hl.1 rfl (Nat.le_of_ble_eq_true rfl) dX5_sheet_28 (fun H locs hI => ?_)
        obtain ⟨rfl, rfl⟩ := ret2 h
        exact hret H locs _ ls hI dX5_sheet_31
    · replace h := (if_pos c_7).symm.trans h
      refine lv_aload_n hx hb dX5_sheet_14 rfl (lv_at hl 0 rfl) ?_
      refine lv_ldc (v := (-100001)) hx hb hown lc47 dX5_sheet_15 ?_
      obtain ⟨r_21, st_22, hr_20, h⟩ := bd2_some h
      refine callV_I (rest := []) C hI (c_X5_finding l g Y ad (-100001 : Int32) st hr_20) (cwV 1 hts gX5_sheet_X5_finding rfl rfl rfl hv_X5_finding ⟨Nat.le_of_ble_eq_true rfl, Nat.le_of_ble_eq_true rfl⟩) (w_recv C hI 0 at_C rfl) rfl hl.1 rfl (Nat.le_of_ble_eq_true rfl) dX5_sheet_17 (fun H locs hI => ?_)
      obtain ⟨rfl, rfl⟩ := ret2 h
      exact hret H locs _ ls hI dX5_sheet_20
theorem hv_X5_sheet : yX5_sheet.cls = RX5 ∧ yX5_sheet.cls ≠ "java/lang/invoke/MethodHandle" ∧ yX5_sheet.cls ≠ "java/lang/invoke/VarHandle" ∧ (parseMethodDescriptor yX5_sheet.desc).map (fun d => d.parameters.length) = some 3 := by decide +kernel
/-! X5_put -/
def rmX5_put : Room := { frames := 1, cells := 0, slots := 0, locals := 22 }
def f_X5_put (st : St) (x1 : Int32) (x2 : Int32) (x3 : Int32) : Option (Int32 × St) := bnd (f_X5_isSheet x1) fun r_1 => if b2i r_1 = 0 then bd2 (f_X5_finding st (-100001 : Int32)) fun r_22 st_23 => some (r_22, st_23) else ck 4 x1 fun j_3 => bnd (f_X4_isMissing st j_3) fun r_4 => if b2i r_4 = 0 then if x2 < 0 then bd2 (f_X5_finding st (-100001 : Int32)) fun r_8 st_9 => some (r_8, st_9) else ck 4 x1 fun j_10 => if x2 < st 37 j_10 then ck 4 x1 fun j_12 => bd1 (f_X4_write st j_12 x2 x3) fun st_14 => some (0, st_14) else bd2 (f_X5_finding st (-100001 : Int32)) fun r_16 st_17 => some (r_16, st_17) else bd2 (f_X5_finding st (-100002 : Int32)) fun r_19 st_20 => some (r_19, st_20)
set_option maxHeartbeats 4000000 in
set_option maxRecDepth 100000 in
theorem c_X5_put (l : Launch) (g : GP) (Y : va_W) (ad : Nat → Nat) (x1 : Int32) (x2 : Int32) (x3 : Int32)  (st : St) {r : Int32} {st' : St} (h : f_X5_put st x1 x2 x3 = some (r, st')) : MetI l yX5_put wsX5_put rmX5_put g (wCX g Y ad) [.ref (ad 0), .int x1, .int x2, .int x3] st (r) st' := by
  refine metI_of (cc := cX5_put) (nL := 4) (ty := .int) (by decide) rfl (Nat.le_of_ble_eq_true rfl) rfl ?_
  intro p e s m below meth c Q A C hret H locs hI ls hl
  have C : Cx p s m _ c cX5_put 4 wsX5_put RX5 g A := C
  obtain ⟨hx, hb, hml, hown, hts⟩ := id C.1
  have hl : lv_has ls 4 [(0, .ref (ad 0)), (1, .int x1), (2, .int x2), (3, .int x3)] := hl
  have hinRX5 : ∀ w ∈ u_ws RX5 TX5 7, w ∈ wsX5_put := by decide +kernel
  have lk21 := hts (.fieldLink RX5 21 "GraveRows" "sheets" "[LGraveRows$Sheet;") (by decide +kernel)
  have lc47 := hts (.constant RX5 47 (-100001)) (by decide +kernel)
  have hinRX4 : ∀ w ∈ u_ws RX4 TX4 3, w ∈ wsX5_put := by decide +kernel
  have lk139 := hts (.fieldLink RX5 139 "GraveRows$Sheet" "length" "I") (by decide +kernel)
  have lc146 := hts (.constant RX5 146 (-100002)) (by decide +kernel)
  rw [f_X5_put] at h
  refine lv_iload_n hx hb dX5_put_0 rfl (lv_at hl 1 rfl) ?_
  refine callS_S (rest := []) C.1 (c_X5_isSheet l x1) (va_cwS 1 hts gX5_put_X5_isSheet rfl rfl rfl hd_X5_isSheet ⟨Nat.le_of_ble_eq_true rfl, Nat.le_of_ble_eq_true rfl⟩) rfl hl.1 rfl (Nat.le_of_ble_eq_true rfl) dX5_put_1 ?_
  refine gen_b h (fun r_1 h => ?_)
  refine lv_if_ne (tgt := 14) hx hb dX5_put_4 (by decide) (fun c_2 => ?_) (fun c_2 => ?_)
  · replace h := (if_neg c_2).symm.trans h
    refine lv_aload_n hx hb dX5_put_14 rfl (lv_at hl 0 rfl) ?_
    refine w_get (v := .ref (ad 33)) C hinRX5 hI 0 at_C rfl 2 (by decide) lk21 rfl rfl dX5_put_15 ?_
    refine lv_iload_n hx hb dX5_put_18 rfl (lv_at hl 1 rfl) ?_
    refine w_ald (t0 := 3) (fa := fun j => ad (34 + j)) C hI 33 ra_33 rfl (fun _ => rfl) h dX5_put_19 (fun j_3 hj_3 h => ?_)
    refine callV_I (rest := []) C hI (c_X4_isMissing l g Y ad j_3 hj_3 st) (cwV 0 hts gX5_put_X4_isMissing rfl rfl rfl hv_X4_isMissing ⟨Nat.le_of_ble_eq_true rfl, Nat.le_of_ble_eq_true rfl⟩) (w_recv C hI (34 + j_3) (at_S hj_3) rfl) rfl hl.1 rfl (Nat.le_of_ble_eq_true rfl) dX5_put_20 (fun H locs hI => ?_)
    refine gen_b h (fun r_4 h => ?_)
    refine lv_if_eq (tgt := 33) hx hb dX5_put_23 (by decide) (fun c_5 => ?_) (fun c_5 => ?_)
    · replace h := (if_pos c_5).symm.trans h
      refine lv_iload_n hx hb dX5_put_33 rfl (lv_at hl 2 rfl) ?_
      refine lv_if_lt (tgt := 50) hx hb dX5_put_34 (by decide) (fun c_6 => ?_) (fun c_6 => ?_)
      · replace h := (if_pos c_6).symm.trans h
        refine lv_aload_n hx hb dX5_put_50 rfl (lv_at hl 0 rfl) ?_
        refine lv_ldc (v := (-100001)) hx hb hown lc47 dX5_put_51 ?_
        obtain ⟨r_8, st_9, hr_7, h⟩ := bd2_some h
        refine callV_I (rest := []) C hI (c_X5_finding l g Y ad (-100001 : Int32) st hr_7) (cwV 1 hts gX5_put_X5_finding rfl rfl rfl hv_X5_finding ⟨Nat.le_of_ble_eq_true rfl, Nat.le_of_ble_eq_true rfl⟩) (w_recv C hI 0 at_C rfl) rfl hl.1 rfl (Nat.le_of_ble_eq_true rfl) dX5_put_53 (fun H locs hI => ?_)
        obtain ⟨rfl, rfl⟩ := ret2 h
        exact hret H locs _ ls hI dX5_put_56
      · replace h := (if_neg c_6).symm.trans h
        refine lv_iload_n hx hb dX5_put_37 rfl (lv_at hl 2 rfl) ?_
        refine lv_aload_n hx hb dX5_put_38 rfl (lv_at hl 0 rfl) ?_
        refine w_get (v := .ref (ad 33)) C hinRX5 hI 0 at_C rfl 2 (by decide) lk21 rfl rfl dX5_put_39 ?_
        refine lv_iload_n hx hb dX5_put_42 rfl (lv_at hl 1 rfl) ?_
        refine w_ald (t0 := 3) (fa := fun j => ad (34 + j)) C hI 33 ra_33 rfl (fun _ => rfl) h dX5_put_43 (fun j_10 hj_10 h => ?_)
        refine w_get (v := .int (st 37 j_10)) C hinRX4 hI (34 + j_10) (at_S hj_10) rfl 2 (by decide) lk139 rfl rfl dX5_put_44 ?_
        refine lv_icmp_lt (tgt := 57) hx hb dX5_put_47 (by decide) (fun c_11 => ?_) (fun c_11 => ?_)
        · replace h := (if_pos c_11).symm.trans h
          refine lv_aload_n hx hb dX5_put_57 rfl (lv_at hl 0 rfl) ?_
          refine w_get (v := .ref (ad 33)) C hinRX5 hI 0 at_C rfl 2 (by decide) lk21 rfl rfl dX5_put_58 ?_
          refine lv_iload_n hx hb dX5_put_61 rfl (lv_at hl 1 rfl) ?_
          refine w_ald (t0 := 3) (fa := fun j => ad (34 + j)) C hI 33 ra_33 rfl (fun _ => rfl) h dX5_put_62 (fun j_12 hj_12 h => ?_)
          refine lv_iload_n hx hb dX5_put_63 rfl (lv_at hl 2 rfl) ?_
          refine lv_iload_n hx hb dX5_put_64 rfl (lv_at hl 3 rfl) ?_
          obtain ⟨st_14, hr_13, h⟩ := bd1_some h
          refine callV_V (rest := []) C hI (c_X4_write l g Y ad j_12 x2 x3 hj_12 st hr_13) (cwV 2 hts gX5_put_X4_write rfl rfl rfl hv_X4_write ⟨Nat.le_of_ble_eq_true rfl, Nat.le_of_ble_eq_true rfl⟩) (w_recv C hI (34 + j_12) (at_S hj_12) rfl) rfl hl.1 rfl (Nat.le_of_ble_eq_true rfl) dX5_put_65 (fun H locs hI => ?_)
          refine lv_iconst (v := 0) hx hb dX5_put_68 (by decide) ?_
          obtain ⟨rfl, rfl⟩ := ret2 h
          exact hret H locs _ ls hI dX5_put_69
        · replace h := (if_neg c_11).symm.trans h
          refine lv_aload_n hx hb dX5_put_50 rfl (lv_at hl 0 rfl) ?_
          refine lv_ldc (v := (-100001)) hx hb hown lc47 dX5_put_51 ?_
          obtain ⟨r_16, st_17, hr_15, h⟩ := bd2_some h
          refine callV_I (rest := []) C hI (c_X5_finding l g Y ad (-100001 : Int32) st hr_15) (cwV 1 hts gX5_put_X5_finding rfl rfl rfl hv_X5_finding ⟨Nat.le_of_ble_eq_true rfl, Nat.le_of_ble_eq_true rfl⟩) (w_recv C hI 0 at_C rfl) rfl hl.1 rfl (Nat.le_of_ble_eq_true rfl) dX5_put_53 (fun H locs hI => ?_)
          obtain ⟨rfl, rfl⟩ := ret2 h
          exact hret H locs _ ls hI dX5_put_56
    · replace h := (if_neg c_5).symm.trans h
      refine lv_aload_n hx hb dX5_put_26 rfl (lv_at hl 0 rfl) ?_
      refine lv_ldc (v := (-100002)) hx hb hown lc146 dX5_put_27 ?_
      obtain ⟨r_19, st_20, hr_18, h⟩ := bd2_some h
      refine callV_I (rest := []) C hI (c_X5_finding l g Y ad (-100002 : Int32) st hr_18) (cwV 1 hts gX5_put_X5_finding rfl rfl rfl hv_X5_finding ⟨Nat.le_of_ble_eq_true rfl, Nat.le_of_ble_eq_true rfl⟩) (w_recv C hI 0 at_C rfl) rfl hl.1 rfl (Nat.le_of_ble_eq_true rfl) dX5_put_29 (fun H locs hI => ?_)
      obtain ⟨rfl, rfl⟩ := ret2 h
      exact hret H locs _ ls hI dX5_put_32
  · replace h := (if_pos c_2).symm.trans h
    refine lv_aload_n hx hb dX5_put_7 rfl (lv_at hl 0 rfl) ?_
    refine lv_ldc (v := (-100001)) hx hb hown lc47 dX5_put_8 ?_
    obtain ⟨r_22, st_23, hr_21, h⟩ := bd2_some h
    refine callV_I (rest := []) C hI (c_X5_finding l g Y ad (-100001 : Int32) st hr_21) (cwV 1 hts gX5_put_X5_finding rfl rfl rfl hv_X5_finding ⟨Nat.le_of_ble_eq_true rfl, Nat.le_of_ble_eq_true rfl⟩) (w_recv C hI 0 at_C rfl) rfl hl.1 rfl (Nat.le_of_ble_eq_true rfl) dX5_put_10 (fun H locs hI => ?_)
    obtain ⟨rfl, rfl⟩ := ret2 h
    exact hret H locs _ ls hI dX5_put_13
theorem hv_X5_put : yX5_put.cls = RX5 ∧ yX5_put.cls ≠ "java/lang/invoke/MethodHandle" ∧ yX5_put.cls ≠ "java/lang/invoke/VarHandle" ∧ (parseMethodDescriptor yX5_put.desc).map (fun d => d.parameters.length) = some 3 := by decide +kernel
/-! X5_copy -/
def rmX5_copy : Room := { frames := 1, cells := 0, slots := 0, locals := 60 }
def f_X5_copy (st : St) (x1 : Int32) (x2 : Int32) (x3 : Int32) (x4 : Int32) (x5 : Int32) : Option (Int32 × St) := bnd (f_X5_isSheet x1) fun r_1 => if b2i r_1 = 0 then bd2 (f_X5_finding st (-100001 : Int32)) fun r_4 st_5 => some (r_4, st_5) else bnd (f_X5_isSheet x3) fun r_6 => if b2i r_6 = 0 then bd2 (f_X5_finding st (-100001 : Int32)) fun r_36 st_37 => some (r_36, st_37) else ck 4 x1 fun j_8 => ck 4 x3 fun j_9 => bnd (f_X4_isMissing st j_8) fun r_10 => if b2i r_10 = 0 then bnd (f_X4_isMissing st j_9) fun r_15 => if b2i r_15 = 0 then if st 36 j_8 = st 36 j_9 then bnd (f_X4_hasStretch st j_8 x2 x5) fun r_18 => if b2i r_18 = 0 then bd2 (f_X5_finding st (-100001 : Int32)) fun r_21 st_22 => some (r_21, st_22) else bnd (f_X4_hasStretch st j_9 x4 x5) fun r_23 => if b2i r_23 = 0 then bd2 (f_X5_finding st (-100001 : Int32)) fun r_27 st_28 => some (r_27, st_28) else acp 12 12 st (32 + j_8) (32 + j_9) x2 x4 x5 fun st_25 => some (x5, st_25) else bd2 (f_X5_finding st (-100004 : Int32)) fun r_30 st_31 => some (r_30, st_31) else bd2 (f_X5_finding st (-100002 : Int32)) fun r_33 st_34 => some (r_33, st_34) else bd2 (f_X5_finding st (-100002 : Int32)) fun r_13 st_14 => some (r_13, st_14)
set_option maxHeartbeats 4000000 in
set_option maxRecDepth 100000 in
theorem c_X5_copy (l : Launch) (g : GP) (Y : va_W) (ad : Nat → Nat) (x1 : Int32) (x2 : Int32) (x3 : Int32) (x4 : Int32) (x5 : Int32)  (st : St) {r : Int32} {st' : St} (h : f_X5_copy st x1 x2 x3 x4 x5 = some (r, st')) : MetI l yX5_copy wsX5_copy rmX5_copy g (wCX g Y ad) [.ref (ad 0), .int x1, .int x2, .int x3, .int x4, .int x5] st (r) st' := by
  refine metI_of (cc := cX5_copy) (nL := 8) (ty := .int) (by decide) rfl (Nat.le_of_ble_eq_true rfl) rfl ?_
  intro p e s m below meth c Q A C hret H locs hI ls hl
  have C : Cx p s m _ c cX5_copy 8 wsX5_copy RX5 g A := C
  obtain ⟨hx, hb, hml, hown, hts⟩ := id C.1
  have hl : lv_has ls 8 [(0, .ref (ad 0)), (1, .int x1), (2, .int x2), (3, .int x3), (4, .int x4), (5, .int x5)] := hl
  have lc47 := hts (.constant RX5 47 (-100001)) (by decide +kernel)
  have hinRX5 : ∀ w ∈ u_ws RX5 TX5 7, w ∈ wsX5_copy := by decide +kernel
  have lk21 := hts (.fieldLink RX5 21 "GraveRows" "sheets" "[LGraveRows$Sheet;") (by decide +kernel)
  have lc146 := hts (.constant RX5 146 (-100002)) (by decide +kernel)
  have hinRX4 : ∀ w ∈ u_ws RX4 TX4 3, w ∈ wsX5_copy := by decide +kernel
  have lk150 := hts (.fieldLink RX5 150 "GraveRows$Sheet" "bits" "I") (by decide +kernel)
  have lk156 := hts (.fieldLink RX5 156 "GraveRows$Sheet" "numbers" "[I") (by decide +kernel)
  have cpl160 := hts (.methodLink RX5 160 arraycopyName) (by decide +kernel)
  have cpx : (Cond.native arraycopyName).before _ _ = true ∧ (Cond.static arraycopyName).before _ _ = true ∧ (Cond.initialized "java/lang/System").before _ _ = true := ⟨hts _ (by decide +kernel), hts _ (by decide +kernel), hts _ (by decide +kernel)⟩
  have lc73 := hts (.constant RX5 73 (-100004)) (by decide +kernel)
  rw [f_X5_copy] at h
  refine lv_iload_n hx hb dX5_copy_0 rfl (lv_at hl 1 rfl) ?_
  refine callS_S (rest := []) C.1 (c_X5_isSheet l x1) (va_cwS 1 hts gX5_copy_X5_isSheet rfl rfl rfl hd_X5_isSheet ⟨Nat.le_of_ble_eq_true rfl, Nat.le_of_ble_eq_true rfl⟩) rfl hl.1 rfl (Nat.le_of_ble_eq_true rfl) dX5_copy_1 ?_
  refine gen_b h (fun r_1 h => ?_)
  refine lv_if_eq (tgt := 14) hx hb dX5_copy_4 (by decide) (fun c_2 => ?_) (fun c_2 => ?_)
  · replace h := (if_pos c_2).symm.trans h
    refine lv_aload_n hx hb dX5_copy_14 rfl (lv_at hl 0 rfl) ?_
    refine lv_ldc (v := (-100001)) hx hb hown lc47 dX5_copy_15 ?_
    obtain ⟨r_4, st_5, hr_3, h⟩ := bd2_some h
    refine callV_I (rest := []) C hI (c_X5_finding l g Y ad (-100001 : Int32) st hr_3) (cwV 1 hts gX5_copy_X5_finding rfl rfl rfl hv_X5_finding ⟨Nat.le_of_ble_eq_true rfl, Nat.le_of_ble_eq_true rfl⟩) (w_recv C hI 0 at_C rfl) rfl hl.1 rfl (Nat.le_of_ble_eq_true rfl) dX5_copy_17 (fun H locs hI => ?_)
    obtain ⟨rfl, rfl⟩ := ret2 h
    exact hret H locs _ ls hI dX5_copy_20
  · replace h := (if_neg c_2).symm.trans h
    refine lv_iload_n hx hb dX5_copy_7 rfl (lv_at hl 3 rfl) ?_
    refine callS_S (rest := []) C.1 (c_X5_isSheet l x3) (va_cwS 1 hts gX5_copy_X5_isSheet rfl rfl rfl hd_X5_isSheet ⟨Nat.le_of_ble_eq_true rfl, Nat.le_of_ble_eq_true rfl⟩) rfl hl.1 rfl (Nat.le_of_ble_eq_true rfl) dX5_copy_8 ?_
    refine gen_b h (fun r_6 h => ?_)
    refine lv_if_ne (tgt := 21) hx hb dX5_copy_11 (by decide) (fun c_7 => ?_) (fun c_7 => ?_)
    · replace h := (if_neg c_7).symm.trans h
      refine lv_aload_n hx hb dX5_copy_21 rfl (lv_at hl 0 rfl) ?_
      refine w_get (v := .ref (ad 33)) C hinRX5 hI 0 at_C rfl 2 (by decide) lk21 rfl rfl dX5_copy_22 ?_
      refine lv_iload_n hx hb dX5_copy_25 rfl (lv_at hl 1 rfl) ?_
      refine w_ald (t0 := 3) (fa := fun j => ad (34 + j)) C hI 33 ra_33 rfl (fun _ => rfl) h dX5_copy_26 (fun j_8 hj_8 h => ?_)
      refine lv_astore (lv' := [(6, .ref (ad (34 + j_8))), (0, .ref (ad 0)), (1, .int x1), (2, .int x2), (3, .int x3), (4, .int x4), (5, .int x5)]) hx hb dX5_copy_27 hl (by decide) rfl (fun ls hl => ?_)
      refine lv_aload_n hx hb dX5_copy_29 rfl (lv_at hl 1 rfl) ?_
      refine w_get (v := .ref (ad 33)) C hinRX5 hI 0 at_C rfl 2 (by decide) lk21 rfl rfl dX5_copy_30 ?_
      refine lv_iload_n hx hb dX5_copy_33 rfl (lv_at hl 4 rfl) ?_
      refine w_ald (t0 := 3) (fa := fun j => ad (34 + j)) C hI 33 ra_33 rfl (fun _ => rfl) h dX5_copy_34 (fun j_9 hj_9 h => ?_)
      refine lv_astore (lv' := [(7, .ref (ad (34 + j_9))), (6, .ref (ad (34 + j_8))), (0, .ref (ad 0)), (1, .int x1), (2, .int x2), (3, .int x3), (4, .int x4), (5, .int x5)]) hx hb dX5_copy_35 hl (by decide) rfl (fun ls hl => ?_)
      refine lv_aload hx hb dX5_copy_37 (lv_at hl 1 rfl) ?_
      refine callV_I (rest := []) C hI (c_X4_isMissing l g Y ad j_8 hj_8 st) (cwV 0 hts gX5_copy_X4_isMissing rfl rfl rfl hv_X4_isMissing ⟨Nat.le_of_ble_eq_true rfl, Nat.le_of_ble_eq_true rfl⟩) (w_recv C hI (34 + j_8) (at_S hj_8) rfl) rfl hl.1 rfl (Nat.le_of_ble_eq_true rfl) dX5_copy_39 (fun H locs hI => ?_)
      refine gen_b h (fun r_10 h => ?_)
      refine lv_if_ne (tgt := 53) hx hb dX5_copy_42 (by decide) (fun c_11 => ?_) (fun c_11 => ?_)
      · replace h := (if_neg c_11).symm.trans h
        refine lv_aload_n hx hb dX5_copy_53 rfl (lv_at hl 2 rfl) ?_
        refine lv_ldc (v := (-100002)) hx hb hown lc146 dX5_copy_54 ?_
        obtain ⟨r_13, st_14, hr_12, h⟩ := bd2_some h
        refine callV_I (rest := []) C hI (c_X5_finding l g Y ad (-100002 : Int32) st hr_12) (cwV 1 hts gX5_copy_X5_finding rfl rfl rfl hv_X5_finding ⟨Nat.le_of_ble_eq_true rfl, Nat.le_of_ble_eq_true rfl⟩) (w_recv C hI 0 at_C rfl) rfl hl.1 rfl (Nat.le_of_ble_eq_true rfl) dX5_copy_56 (fun H locs hI => ?_)
        obtain ⟨rfl, rfl⟩ := ret2 h
        exact hret H locs _ ls hI dX5_copy_59
      · replace h := (if_pos c_11).symm.trans h
        refine lv_aload hx hb dX5_copy_45 (lv_at hl 0 rfl) ?_
        refine callV_I (rest := []) C hI (c_X4_isMissing l g Y ad j_9 hj_9 st) (cwV 0 hts gX5_copy_X4_isMissing rfl rfl rfl hv_X4_isMissing ⟨Nat.le_of_ble_eq_true rfl, Nat.le_of_ble_eq_true rfl⟩) (w_recv C hI (34 + j_9) (at_S hj_9) rfl) rfl hl.1 rfl (Nat.le_of_ble_eq_true rfl) dX5_copy_47 (fun H locs hI => ?_)
        refine gen_b h (fun r_15 h => ?_)
        refine lv_if_eq (tgt := 60) hx hb dX5_copy_50 (by decide) (fun c_16 => ?_) (fun c_16 => ?_)
        · replace h := (if_pos c_16).symm.trans h
          refine lv_aload hx hb dX5_copy_60 (lv_at hl 1 rfl) ?_
          refine w_get (v := .int (st 36 j_8)) C hinRX4 hI (34 + j_8) (at_S hj_8) rfl 1 (by decide) lk150 rfl rfl dX5_copy_62 ?_
          refine lv_aload hx hb dX5_copy_65 (lv_at hl 0 rfl) ?_
          refine w_get (v := .int (st 36 j_9)) C hinRX4 hI (34 + j_9) (at_S hj_9) rfl 1 (by decide) lk150 rfl rfl dX5_copy_67 ?_
          refine lv_icmp_eq (tgt := 80) hx hb dX5_copy_70 (by decide) (fun c_17 => ?_) (fun c_17 => ?_)
          · replace h := (if_pos c_17).symm.trans h
            refine lv_aload hx hb dX5_copy_80 (lv_at hl 1 rfl) ?_
            refine lv_iload_n hx hb dX5_copy_82 rfl (lv_at hl 4 rfl) ?_
            refine lv_iload hx hb dX5_copy_83 (lv_at hl 7 rfl) ?_
            refine callV_I (rest := []) C hI (c_X4_hasStretch l g Y ad j_8 x2 x5 hj_8 st) (cwV 2 hts gX5_copy_X4_hasStretch rfl rfl rfl hv_X4_hasStretch ⟨Nat.le_of_ble_eq_true rfl, Nat.le_of_ble_eq_true rfl⟩) (w_recv C hI (34 + j_8) (at_S hj_8) rfl) rfl hl.1 rfl (Nat.le_of_ble_eq_true rfl) dX5_copy_85 (fun H locs hI => ?_)
            refine gen_b h (fun r_18 h => ?_)
            refine lv_if_eq (tgt := 103) hx hb dX5_copy_88 (by decide) (fun c_19 => ?_) (fun c_19 => ?_)
            · replace h := (if_pos c_19).symm.trans h
              refine lv_aload_n hx hb dX5_copy_103 rfl (lv_at hl 2 rfl) ?_
              refine lv_ldc (v := (-100001)) hx hb hown lc47 dX5_copy_104 ?_
              obtain ⟨r_21, st_22, hr_20, h⟩ := bd2_some h
              refine callV_I (rest := []) C hI (c_X5_finding l g Y ad (-100001 : Int32) st hr_20) (cwV 1 hts gX5_copy_X5_finding rfl rfl rfl hv_X5_finding ⟨Nat.le_of_ble_eq_true rfl, Nat.le_of_ble_eq_true rfl⟩) (w_recv C hI 0 at_C rfl) rfl hl.1 rfl (Nat.le_of_ble_eq_true rfl) dX5_copy_106 (fun H locs hI => ?_)
              obtain ⟨rfl, rfl⟩ := ret2 h
              exact hret H locs _ ls hI dX5_copy_109
            · replace h := (if_neg c_19).symm.trans h
              refine lv_aload hx hb dX5_copy_91 (lv_at hl 0 rfl) ?_
              refine lv_iload hx hb dX5_copy_93 (lv_at hl 6 rfl) ?_
              refine lv_iload hx hb dX5_copy_95 (lv_at hl 7 rfl) ?_
              refine callV_I (rest := []) C hI (c_X4_hasStretch l g Y ad j_9 x4 x5 hj_9 st) (cwV 2 hts gX5_copy_X4_hasStretch rfl rfl rfl hv_X4_hasStretch ⟨Nat.le_of_ble_eq_true rfl, Nat.le_of_ble_eq_true rfl⟩) (w_recv C hI (34 + j_9) (at_S hj_9) rfl) rfl hl.1 rfl (Nat.le_of_ble_eq_true rfl) dX5_copy_97 (fun H locs hI => ?_)
              refine gen_b h (fun r_23 h => ?_)
              refine lv_if_ne (tgt := 110) hx hb dX5_copy_100 (by decide) (fun c_24 => ?_) (fun c_24 => ?_)
              · replace h := (if_neg c_24).symm.trans h
                refine lv_aload hx hb dX5_copy_110 (lv_at hl 1 rfl) ?_
                refine w_get (v := .ref (ad (38 + j_8))) C hinRX4 hI (34 + j_8) (at_S hj_8) rfl 0 (by decide) lk156 rfl rfl dX5_copy_112 ?_
                refine lv_iload_n hx hb dX5_copy_115 rfl (lv_at hl 4 rfl) ?_
                refine lv_aload hx hb dX5_copy_116 (lv_at hl 0 rfl) ?_
                refine w_get (v := .ref (ad (38 + j_9))) C hinRX4 hI (34 + j_9) (at_S hj_9) rfl 0 (by decide) lk156 rfl rfl dX5_copy_118 ?_
                refine lv_iload hx hb dX5_copy_121 (lv_at hl 6 rfl) ?_
                refine lv_iload hx hb dX5_copy_123 (lv_at hl 7 rfl) ?_
                refine w_cpy C hI hl.1 cpl160 cpx (38 + j_8) (38 + j_9) (ar_S hj_8) (ar_S hj_9) (sa_S hj_9) h (Nat.le_of_ble_eq_true rfl) (Nat.le_of_ble_eq_true rfl) dX5_copy_125 (fun st_25 H locs h hI => ?_)
                refine lv_iload hx hb dX5_copy_128 (lv_at hl 7 rfl) ?_
                obtain ⟨rfl, rfl⟩ := ret2 h
                exact hret H locs _ ls hI dX5_copy_130
              · replace h := (if_pos c_24).symm.trans h
                refine lv_aload_n hx hb dX5_copy_103 rfl (lv_at hl 2 rfl) ?_
                refine lv_ldc (v := (-100001)) hx hb hown lc47 dX5_copy_104 ?_
                obtain ⟨r_27, st_28, hr_26, h⟩ := bd2_some h
                refine callV_I (rest := []) C hI (c_X5_finding l g Y ad (-100001 : Int32) st hr_26) (cwV 1 hts gX5_copy_X5_finding rfl rfl rfl hv_X5_finding ⟨Nat.le_of_ble_eq_true rfl, Nat.le_of_ble_eq_true rfl⟩) (w_recv C hI 0 at_C rfl) rfl hl.1 rfl (Nat.le_of_ble_eq_true rfl) dX5_copy_106 (fun H locs hI => ?_)
                obtain ⟨rfl, rfl⟩ := ret2 h
                exact hret H locs _ ls hI dX5_copy_109
          · replace h := (if_neg c_17).symm.trans h
            refine lv_aload_n hx hb dX5_copy_73 rfl (lv_at hl 2 rfl) ?_
            refine lv_ldc (v := (-100004)) hx hb hown lc73 dX5_copy_74 ?_
            obtain ⟨r_30, st_31, hr_29, h⟩ := bd2_some h
            refine callV_I (rest := []) C hI (c_X5_finding l g Y ad (-100004 : Int32) st hr_29) (cwV 1 hts gX5_copy_X5_finding rfl rfl rfl hv_X5_finding ⟨Nat.le_of_ble_eq_true rfl, Nat.le_of_ble_eq_true rfl⟩) (w_recv C hI 0 at_C rfl) rfl hl.1 rfl (Nat.le_of_ble_eq_true rfl) dX5_copy_76 (fun H locs hI => ?_)
            obtain ⟨rfl, rfl⟩ := ret2 h
            exact hret H locs _ ls hI dX5_copy_79
        · replace h := (if_neg c_16).symm.trans h
          refine lv_aload_n hx hb dX5_copy_53 rfl (lv_at hl 2 rfl) ?_
          refine lv_ldc (v := (-100002)) hx hb hown lc146 dX5_copy_54 ?_
          obtain ⟨r_33, st_34, hr_32, h⟩ := bd2_some h
          refine callV_I (rest := []) C hI (c_X5_finding l g Y ad (-100002 : Int32) st hr_32) (cwV 1 hts gX5_copy_X5_finding rfl rfl rfl hv_X5_finding ⟨Nat.le_of_ble_eq_true rfl, Nat.le_of_ble_eq_true rfl⟩) (w_recv C hI 0 at_C rfl) rfl hl.1 rfl (Nat.le_of_ble_eq_true rfl) dX5_copy_56 (fun H locs hI => ?_)
          obtain ⟨rfl, rfl⟩ := ret2 h
          exact hret H locs _ ls hI dX5_copy_59
    · replace h := (if_pos c_7).symm.trans h
      refine lv_aload_n hx hb dX5_copy_14 rfl (lv_at hl 0 rfl) ?_
      refine lv_ldc (v := (-100001)) hx hb hown lc47 dX5_copy_15 ?_
      obtain ⟨r_36, st_37, hr_35, h⟩ := bd2_some h
      refine callV_I (rest := []) C hI (c_X5_finding l g Y ad (-100001 : Int32) st hr_35) (cwV 1 hts gX5_copy_X5_finding rfl rfl rfl hv_X5_finding ⟨Nat.le_of_ble_eq_true rfl, Nat.le_of_ble_eq_true rfl⟩) (w_recv C hI 0 at_C rfl) rfl hl.1 rfl (Nat.le_of_ble_eq_true rfl) dX5_copy_17 (fun H locs hI => ?_)
      obtain ⟨rfl, rfl⟩ := ret2 h
      exact hret H locs _ ls hI dX5_copy_20
theorem hv_X5_copy : yX5_copy.cls = RX5 ∧ yX5_copy.cls ≠ "java/lang/invoke/MethodHandle" ∧ yX5_copy.cls ≠ "java/lang/invoke/VarHandle" ∧ (parseMethodDescriptor yX5_copy.desc).map (fun d => d.parameters.length) = some 5 := by decide +kernel
/-! X5_read -/
def rmX5_read : Room := { frames := 1, cells := 0, slots := 0, locals := 23 }
def f_X5_read (N : Nat) (st : St) (x1 : Int32) (x2 : Int32) : Option (Int32 × St) := bnd (f_X2_holds st x1) fun r_1 => if b2i r_1 = 0 then bd2 (f_X5_finding st (-100001 : Int32)) fun r_4 st_5 => some (r_4, st_5) else bnd (f_X5_isSheet x2) fun r_6 => if b2i r_6 = 0 then bd2 (f_X5_finding st (-100001 : Int32)) fun r_21 st_22 => some (r_21, st_22) else ck 4 x2 fun j_8 => bnd (f_X4_isMissing st j_8) fun r_9 => if b2i r_9 = 0 then ck 10 x1 fun j_11 => ck 4 x2 fun j_12 => bd1 (f_X4_goodsReadInto N st j_12 (st 3 j_11)) fun r_14 => bnd (sU st 3 j_11 r_14) fun st_15 => bnd (f_J6_bitCount_0f7a4 (st_15 3 j_11)) fun r_16 => some (r_16, st_15) else bd2 (f_X5_finding st (-100002 : Int32)) fun r_18 st_19 => some (r_18, st_19)
set_option maxHeartbeats 4000000 in
set_option maxRecDepth 100000 in
theorem c_X5_read (l : Launch) (g : GP) (Y : va_W) (ad : Nat → Nat) (N : Nat) (x1 : Int32) (x2 : Int32)  (st : St) {r : Int32} {st' : St} (h : f_X5_read N st x1 x2 = some (r, st')) : MetI l yX5_read wsX5_read rmX5_read g (wCX g Y ad) [.ref (ad 0), .int x1, .int x2] st (r) st' := by
  refine metI_of (cc := cX5_read) (nL := 4) (ty := .int) (by decide) rfl (Nat.le_of_ble_eq_true rfl) rfl ?_
  intro p e s m below meth c Q A C hret H locs hI ls hl
  have C : Cx p s m _ c cX5_read 4 wsX5_read RX5 g A := C
  obtain ⟨hx, hb, hml, hown, hts⟩ := id C.1
  have hl : lv_has ls 4 [(0, .ref (ad 0)), (1, .int x1), (2, .int x2)] := hl
  have hinRX5 : ∀ w ∈ u_ws RX5 TX5 7, w ∈ wsX5_read := by decide +kernel
  have lk12 := hts (.fieldLink RX5 12 "GraveRows" "ground" "LGraveRows$Ground;") (by decide +kernel)
  have lc47 := hts (.constant RX5 47 (-100001)) (by decide +kernel)
  have lk21 := hts (.fieldLink RX5 21 "GraveRows" "sheets" "[LGraveRows$Sheet;") (by decide +kernel)
  have hinRX2 : ∀ w ∈ u_ws RX2 TX2 7, w ∈ wsX5_read := by decide +kernel
  have lk64 := hts (.fieldLink RX5 64 "GraveRows$Ground" "graves" "[LGraveRows$Grave;") (by decide +kernel)
  have hinRX1 : ∀ w ∈ u_ws RX1 TX1 9, w ∈ wsX5_read := by decide +kernel
  have lk74 := hts (.fieldLink RX5 74 "GraveRows$Grave" "goods" "I") (by decide +kernel)
  have lc146 := hts (.constant RX5 146 (-100002)) (by decide +kernel)
  rw [f_X5_read] at h
  refine lv_aload_n hx hb dX5_read_0 rfl (lv_at hl 0 rfl) ?_
  refine w_get (v := .ref (ad 1)) C hinRX5 hI 0 at_C rfl 0 (by decide) lk12 rfl rfl dX5_read_1 ?_
  refine lv_iload_n hx hb dX5_read_4 rfl (lv_at hl 1 rfl) ?_
  refine callV_I (rest := []) C hI (c_X2_holds l g Y ad x1 st) (cwV 1 hts gX5_read_X2_holds rfl rfl rfl hv_X2_holds ⟨Nat.le_of_ble_eq_true rfl, Nat.le_of_ble_eq_true rfl⟩) (w_recv C hI 1 at_G0 rfl) rfl hl.1 rfl (Nat.le_of_ble_eq_true rfl) dX5_read_5 (fun H locs hI => ?_)
  refine gen_b h (fun r_1 h => ?_)
  refine lv_if_eq (tgt := 18) hx hb dX5_read_8 (by decide) (fun c_2 => ?_) (fun c_2 => ?_)
  · replace h := (if_pos c_2).symm.trans h
    refine lv_aload_n hx hb dX5_read_18 rfl (lv_at hl 0 rfl) ?_
    refine lv_ldc (v := (-100001)) hx hb hown lc47 dX5_read_19 ?_
    obtain ⟨r_4, st_5, hr_3, h⟩ := bd2_some h
    refine callV_I (rest := []) C hI (c_X5_finding l g Y ad (-100001 : Int32) st hr_3) (cwV 1 hts gX5_read_X5_finding rfl rfl rfl hv_X5_finding ⟨Nat.le_of_ble_eq_true rfl, Nat.le_of_ble_eq_true rfl⟩) (w_recv C hI 0 at_C rfl) rfl hl.1 rfl (Nat.le_of_ble_eq_true rfl) dX5_read_21 (fun H locs hI => ?_)
    obtain ⟨rfl, rfl⟩ := ret2 h
    exact hret H locs _ ls hI dX5_read_24
  · replace h := (if_neg c_2).symm.trans h
    refine lv_iload_n hx hb dX5_read_11 rfl (lv_at hl 2 rfl) ?_
    refine callS_S (rest := []) C.1 (c_X5_isSheet l x2) (va_cwS 1 hts gX5_read_X5_isSheet rfl rfl rfl hd_X5_isSheet ⟨Nat.le_of_ble_eq_true rfl, Nat.le_of_ble_eq_true rfl⟩) rfl hl.1 rfl (Nat.le_of_ble_eq_true rfl) dX5_read_12 ?_
    refine gen_b h (fun r_6 h => ?_)
    refine lv_if_ne (tgt := 25) hx hb dX5_read_15 (by decide) (fun c_7 => ?_) (fun c_7 => ?_)
    · replace h := (if_neg c_7).symm.trans h
      refine lv_aload_n hx hb dX5_read_25 rfl (lv_at hl 0 rfl) ?_
      refine w_get (v := .ref (ad 33)) C hinRX5 hI 0 at_C rfl 2 (by decide) lk21 rfl rfl dX5_read_26 ?_
      refine lv_iload_n hx hb dX5_read_29 rfl (lv_at hl 2 rfl) ?_
      refine w_ald (t0 := 3) (fa := fun j => ad (34 + j)) C hI 33 ra_33 rfl (fun _ => rfl) h dX5_read_30 (fun j_8 hj_8 h => ?_)
      refine callV_I (rest := []) C hI (c_X4_isMissing l g Y ad j_8 hj_8 st) (cwV 0 hts gX5_read_X4_isMissing rfl rfl rfl hv_X4_isMissing ⟨Nat.le_of_ble_eq_true rfl, Nat.le_of_ble_eq_true rfl⟩) (w_recv C hI (34 + j_8) (at_S hj_8) rfl) rfl hl.1 rfl (Nat.le_of_ble_eq_true rfl) dX5_read_31 (fun H locs hI => ?_)
      refine gen_b h (fun r_9 h => ?_)
      refine lv_if_eq (tgt := 44) hx hb dX5_read_34 (by decide) (fun c_10 => ?_) (fun c_10 => ?_)
      · replace h := (if_pos c_10).symm.trans h
        refine lv_aload_n hx hb dX5_read_44 rfl (lv_at hl 0 rfl) ?_
        refine w_get (v := .ref (ad 1)) C hinRX5 hI 0 at_C rfl 0 (by decide) lk12 rfl rfl dX5_read_45 ?_
        refine w_get (v := .ref (ad 2)) C hinRX2 hI 1 at_G0 rfl 0 (by decide) lk64 rfl rfl dX5_read_48 ?_
        refine lv_iload_n hx hb dX5_read_51 rfl (lv_at hl 1 rfl) ?_
        refine w_ald (t0 := 2) (fa := fun j => ad (7 + j)) C hI 2 ra_2 rfl (fun _ => rfl) h dX5_read_52 (fun j_11 hj_11 h => ?_)
        refine lv_astore_n (lv' := [(3, .ref (ad (7 + j_11))), (0, .ref (ad 0)), (1, .int x1), (2, .int x2)]) hx hb dX5_read_53 rfl hl (by decide) rfl (fun ls hl => ?_)
        refine lv_aload_n hx hb dX5_read_54 rfl (lv_at hl 0 rfl) ?_
        refine lv_aload_n hx hb dX5_read_55 rfl (lv_at hl 1 rfl) ?_
        refine w_get (v := .ref (ad 33)) C hinRX5 hI 0 at_C rfl 2 (by decide) lk21 rfl rfl dX5_read_56 ?_
        refine lv_iload_n hx hb dX5_read_59 rfl (lv_at hl 3 rfl) ?_
        refine w_ald (t0 := 3) (fa := fun j => ad (34 + j)) C hI 33 ra_33 rfl (fun _ => rfl) h dX5_read_60 (fun j_12 hj_12 h => ?_)
        refine lv_aload_n hx hb dX5_read_61 rfl (lv_at hl 0 rfl) ?_
        refine w_get (v := .int (st 3 j_11)) C hinRX1 hI (7 + j_11) (at_V0 hj_11) rfl 3 (by decide) lk74 rfl rfl dX5_read_62 ?_
        obtain ⟨r_14, hr_13, h⟩ := bd1_some h
        refine callV_I (rest := [.ref (ad (7 + j_11))]) C hI (c_X4_goodsReadInto l g Y ad N j_12 (st 3 j_11) hj_12 st hr_13) (cwV 1 hts gX5_read_X4_goodsReadInto rfl rfl rfl hv_X4_goodsReadInto ⟨Nat.le_of_ble_eq_true rfl, Nat.le_of_ble_eq_true rfl⟩) (w_recv C hI (34 + j_12) (at_S hj_12) rfl) rfl hl.1 rfl (Nat.le_of_ble_eq_true rfl) dX5_read_65 (fun H locs hI => ?_)
        refine w_put C hinRX1 tyX1 tyX1_ok nmX1 hI (7 + j_11) (at_V0 hj_11) rfl 3 h (st_V0_goods hj_11) (by decide) (Nat.le_of_ble_eq_true rfl) lk74 ⟨rfl, rfl⟩ rfl rfl dX5_read_68 (fun st_15 H locs h hI => ?_)
        refine lv_aload_n hx hb dX5_read_71 rfl (lv_at hl 0 rfl) ?_
        refine w_get (v := .int (st_15 3 j_11)) C hinRX1 hI (7 + j_11) (at_V0 hj_11) rfl 3 (by decide) lk74 rfl rfl dX5_read_72 ?_
        refine callS_S (rest := []) C.1 (c_J6_bitCount_0f7a4 l (st_15 3 j_11)) (va_cwS 1 hts gX5_read_J6_bitCount_0f7a4 rfl rfl rfl hd_J6_bitCount_0f7a4 ⟨Nat.le_of_ble_eq_true rfl, Nat.le_of_ble_eq_true rfl⟩) rfl hl.1 rfl (Nat.le_of_ble_eq_true rfl) dX5_read_75 ?_
        refine gen_i h (fun r_16 h => ?_)
        obtain ⟨rfl, rfl⟩ := ret2 h
        exact hret H locs _ ls hI dX5_read_78
      · replace h := (if_neg c_10).symm.trans h
        refine lv_aload_n hx hb dX5_read_37 rfl (lv_at hl 0 rfl) ?_
        refine lv_ldc (v := (-100002)) hx hb hown lc146 dX5_read_38 ?_
        obtain ⟨r_18, st_19, hr_17, h⟩ := bd2_some h
        refine callV_I (rest := []) C hI (c_X5_finding l g Y ad (-100002 : Int32) st hr_17) (cwV 1 hts gX5_read_X5_finding rfl rfl rfl hv_X5_finding ⟨Nat.le_of_ble_eq_true rfl, Nat.le_of_ble_eq_true rfl⟩) (w_recv C hI 0 at_C rfl) rfl hl.1 rfl (Nat.le_of_ble_eq_true rfl) dX5_read_40 (fun H locs hI => ?_)
        obtain ⟨rfl, rfl⟩ := ret2 h
        exact hret H locs _ ls hI dX5_read_43
    · replace h := (if_pos c_7).symm.trans h
      refine lv_aload_n hx hb dX5_read_18 rfl (lv_at hl 0 rfl) ?_
      refine lv_ldc (v := (-100001)) hx hb hown lc47 dX5_read_19 ?_
      obtain ⟨r_21, st_22, hr_20, h⟩ := bd2_some h
      refine callV_I (rest := []) C hI (c_X5_finding l g Y ad (-100001 : Int32) st hr_20) (cwV 1 hts gX5_read_X5_finding rfl rfl rfl hv_X5_finding ⟨Nat.le_of_ble_eq_true rfl, Nat.le_of_ble_eq_true rfl⟩) (w_recv C hI 0 at_C rfl) rfl hl.1 rfl (Nat.le_of_ble_eq_true rfl) dX5_read_21 (fun H locs hI => ?_)
      obtain ⟨rfl, rfl⟩ := ret2 h
      exact hret H locs _ ls hI dX5_read_24
theorem hv_X5_read : yX5_read.cls = RX5 ∧ yX5_read.cls ≠ "java/lang/invoke/MethodHandle" ∧ yX5_read.cls ≠ "java/lang/invoke/VarHandle" ∧ (parseMethodDescriptor yX5_read.desc).map (fun d => d.parameters.length) = some 2 := by decide +kernel
