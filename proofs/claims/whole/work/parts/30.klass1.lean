/-! X1_becomev10 -/
def rmX1_becomev10 : Room := { frames := 0, cells := 0, slots := 0, locals := 0 }
def f_X1_becomev10 (st : St) (x0 : Nat) (x1 : Nat) : Option (St) := bnd (sU st 16 x0 (st 0 x1)) fun st_1 => bnd (sU st_1 17 x0 (st_1 1 x1)) fun st_2 => bnd (sU st_2 18 x0 (st_2 2 x1)) fun st_3 => bnd (sU st_3 19 x0 (st_3 3 x1)) fun st_4 => bnd (sU st_4 20 x0 (st_4 4 x1)) fun st_5 => bnd (sU st_5 21 x0 (st_5 5 x1)) fun st_6 => bnd (sU st_6 22 x0 (st_6 6 x1)) fun st_7 => bnd (sU st_7 23 x0 (st_7 7 x1)) fun st_8 => bnd (sU st_8 24 x0 (st_8 8 x1)) fun st_9 => some st_9
set_option maxHeartbeats 4000000 in
set_option maxRecDepth 100000 in
theorem c_X1_becomev10 (l : Launch) (g : GP) (Y : va_W) (ad : Nat → Nat) (x0 : Nat) (x1 : Nat) (hx0 : x0 < 10) (hx1 : x1 < 10) (st : St) {st' : St} (h : f_X1_becomev10 st x0 x1 = some st') : MetV l yX1_become wsX1_become rmX1_becomev10 g (wCX g Y ad) [.ref (ad (23 + x0)), .ref (ad (7 + x1))] st st' := by
  refine metV_of (cc := cX1_become) (nL := 2) (by decide) rfl (Nat.le_of_ble_eq_true rfl) ?_
  intro p e s m below meth c Q A C hret H locs hI ls hl
  have C : Cx p s m _ c cX1_become 2 wsX1_become RX1 g A := C
  obtain ⟨hx, hb, hml, hown, hts⟩ := id C.1
  have hl : lv_has ls 2 [(0, .ref (ad (23 + x0))), (1, .ref (ad (7 + x1)))] := hl
  have hinRX1 : ∀ w ∈ u_ws RX1 TX1 9, w ∈ wsX1_become := by decide +kernel
  have lk9 := hts (.fieldLink RX1 9 "GraveRows$Grave" "kind" "I") (by decide +kernel)
  have lk15 := hts (.fieldLink RX1 15 "GraveRows$Grave" "x" "I") (by decide +kernel)
  have lk18 := hts (.fieldLink RX1 18 "GraveRows$Grave" "y" "I") (by decide +kernel)
  have lk21 := hts (.fieldLink RX1 21 "GraveRows$Grave" "goods" "I") (by decide +kernel)
  have lk24 := hts (.fieldLink RX1 24 "GraveRows$Grave" "from" "I") (by decide +kernel)
  have lk27 := hts (.fieldLink RX1 27 "GraveRows$Grave" "to" "I") (by decide +kernel)
  have lk30 := hts (.fieldLink RX1 30 "GraveRows$Grave" "cuts" "I") (by decide +kernel)
  have lk33 := hts (.fieldLink RX1 33 "GraveRows$Grave" "marksTold" "I") (by decide +kernel)
  have lk36 := hts (.fieldLink RX1 36 "GraveRows$Grave" "marksOfMan" "I") (by decide +kernel)
  rw [f_X1_becomev10] at h
  refine lv_aload_n hx hb dX1_become_0 rfl (lv_at hl 0 rfl) ?_
  refine lv_aload_n hx hb dX1_become_1 rfl (lv_at hl 1 rfl) ?_
  refine w_get (v := .int (st 0 x1)) C hinRX1 hI (7 + x1) (at_V0 hx1) rfl 0 (by decide) lk9 rfl rfl dX1_become_2 ?_
  refine w_put C hinRX1 tyX1 tyX1_ok nmX1 hI (23 + x0) (at_V1 hx0) rfl 0 h (st_V1_kind hx0) (by decide) (Nat.le_of_ble_eq_true rfl) lk9 ⟨rfl, rfl⟩ rfl rfl dX1_become_5 (fun st_1 H locs h hI => ?_)
  refine lv_aload_n hx hb dX1_become_8 rfl (lv_at hl 0 rfl) ?_
  refine lv_aload_n hx hb dX1_become_9 rfl (lv_at hl 1 rfl) ?_
  refine w_get (v := .int (st_1 1 x1)) C hinRX1 hI (7 + x1) (at_V0 hx1) rfl 1 (by decide) lk15 rfl rfl dX1_become_10 ?_
  refine w_put C hinRX1 tyX1 tyX1_ok nmX1 hI (23 + x0) (at_V1 hx0) rfl 1 h (st_V1_x hx0) (by decide) (Nat.le_of_ble_eq_true rfl) lk15 ⟨rfl, rfl⟩ rfl rfl dX1_become_13 (fun st_2 H locs h hI => ?_)
  refine lv_aload_n hx hb dX1_become_16 rfl (lv_at hl 0 rfl) ?_
  refine lv_aload_n hx hb dX1_become_17 rfl (lv_at hl 1 rfl) ?_
  refine w_get (v := .int (st_2 2 x1)) C hinRX1 hI (7 + x1) (at_V0 hx1) rfl 2 (by decide) lk18 rfl rfl dX1_become_18 ?_
  refine w_put C hinRX1 tyX1 tyX1_ok nmX1 hI (23 + x0) (at_V1 hx0) rfl 2 h (st_V1_y hx0) (by decide) (Nat.le_of_ble_eq_true rfl) lk18 ⟨rfl, rfl⟩ rfl rfl dX1_become_21 (fun st_3 H locs h hI => ?_)
  refine lv_aload_n hx hb dX1_become_24 rfl (lv_at hl 0 rfl) ?_
  refine lv_aload_n hx hb dX1_become_25 rfl (lv_at hl 1 rfl) ?_
  refine w_get (v := .int (st_3 3 x1)) C hinRX1 hI (7 + x1) (at_V0 hx1) rfl 3 (by decide) lk21 rfl rfl dX1_become_26 ?_
  refine w_put C hinRX1 tyX1 tyX1_ok nmX1 hI (23 + x0) (at_V1 hx0) rfl 3 h (st_V1_goods hx0) (by decide) (Nat.le_of_ble_eq_true rfl) lk21 ⟨rfl, rfl⟩ rfl rfl dX1_become_29 (fun st_4 H locs h hI => ?_)
  refine lv_aload_n hx hb dX1_become_32 rfl (lv_at hl 0 rfl) ?_
  refine lv_aload_n hx hb dX1_become_33 rfl (lv_at hl 1 rfl) ?_
  refine w_get (v := .int (st_4 4 x1)) C hinRX1 hI (7 + x1) (at_V0 hx1) rfl 4 (by decide) lk24 rfl rfl dX1_become_34 ?_
  refine w_put C hinRX1 tyX1 tyX1_ok nmX1 hI (23 + x0) (at_V1 hx0) rfl 4 h (st_V1_from hx0) (by decide) (Nat.le_of_ble_eq_true rfl) lk24 ⟨rfl, rfl⟩ rfl rfl dX1_become_37 (fun st_5 H locs h hI => ?_)
  refine lv_aload_n hx hb dX1_become_40 rfl (lv_at hl 0 rfl) ?_
  refine lv_aload_n hx hb dX1_become_41 rfl (lv_at hl 1 rfl) ?_
  refine w_get (v := .int (st_5 5 x1)) C hinRX1 hI (7 + x1) (at_V0 hx1) rfl 5 (by decide) lk27 rfl rfl dX1_become_42 ?_
  refine w_put C hinRX1 tyX1 tyX1_ok nmX1 hI (23 + x0) (at_V1 hx0) rfl 5 h (st_V1_to hx0) (by decide) (Nat.le_of_ble_eq_true rfl) lk27 ⟨rfl, rfl⟩ rfl rfl dX1_become_45 (fun st_6 H locs h hI => ?_)
  refine lv_aload_n hx hb dX1_become_48 rfl (lv_at hl 0 rfl) ?_
  refine lv_aload_n hx hb dX1_become_49 rfl (lv_at hl 1 rfl) ?_
  refine w_get (v := .int (st_6 6 x1)) C hinRX1 hI (7 + x1) (at_V0 hx1) rfl 6 (by decide) lk30 rfl rfl dX1_become_50 ?_
  refine w_put C hinRX1 tyX1 tyX1_ok nmX1 hI (23 + x0) (at_V1 hx0) rfl 6 h (st_V1_cuts hx0) (by decide) (Nat.le_of_ble_eq_true rfl) lk30 ⟨rfl, rfl⟩ rfl rfl dX1_become_53 (fun st_7 H locs h hI => ?_)
  refine lv_aload_n hx hb dX1_become_56 rfl (lv_at hl 0 rfl) ?_
  refine lv_aload_n hx hb dX1_become_57 rfl (lv_at hl 1 rfl) ?_
  refine w_get (v := .int (st_7 7 x1)) C hinRX1 hI (7 + x1) (at_V0 hx1) rfl 7 (by decide) lk33 rfl rfl dX1_become_58 ?_
  refine w_put C hinRX1 tyX1 tyX1_ok nmX1 hI (23 + x0) (at_V1 hx0) rfl 7 h (st_V1_marksTold hx0) (by decide) (Nat.le_of_ble_eq_true rfl) lk33 ⟨rfl, rfl⟩ rfl rfl dX1_become_61 (fun st_8 H locs h hI => ?_)
  refine lv_aload_n hx hb dX1_become_64 rfl (lv_at hl 0 rfl) ?_
  refine lv_aload_n hx hb dX1_become_65 rfl (lv_at hl 1 rfl) ?_
  refine w_get (v := .int (st_8 8 x1)) C hinRX1 hI (7 + x1) (at_V0 hx1) rfl 8 (by decide) lk36 rfl rfl dX1_become_66 ?_
  refine w_put C hinRX1 tyX1 tyX1_ok nmX1 hI (23 + x0) (at_V1 hx0) rfl 8 h (st_V1_marksOfMan hx0) (by decide) (Nat.le_of_ble_eq_true rfl) lk36 ⟨rfl, rfl⟩ rfl rfl dX1_become_69 (fun st_9 H locs h hI => ?_)
  obtain rfl := ret1 h
  exact hret H locs _ ls hI dX1_become_72
theorem hv_X1_become : yX1_become.cls = RX1 ∧ yX1_become.cls ≠ "java/lang/invoke/MethodHandle" ∧ yX1_become.cls ≠ "java/lang/invoke/VarHandle" ∧ (parseMethodDescriptor yX1_become.desc).map (fun d => d.parameters.length) = some 1 := by decide +kernel
/-! X1_becomev01 -/
def rmX1_becomev01 : Room := { frames := 0, cells := 0, slots := 0, locals := 0 }
def f_X1_becomev01 (st : St) (x0 : Nat) (x1 : Nat) : Option (St) := bnd (sU st 0 x0 (st 16 x1)) fun st_1 => bnd (sU st_1 1 x0 (st_1 17 x1)) fun st_2 => bnd (sU st_2 2 x0 (st_2 18 x1)) fun st_3 => bnd (sU st_3 3 x0 (st_3 19 x1)) fun st_4 => bnd (sU st_4 4 x0 (st_4 20 x1)) fun st_5 => bnd (sU st_5 5 x0 (st_5 21 x1)) fun st_6 => bnd (sU st_6 6 x0 (st_6 22 x1)) fun st_7 => bnd (sU st_7 7 x0 (st_7 23 x1)) fun st_8 => bnd (sU st_8 8 x0 (st_8 24 x1)) fun st_9 => some st_9
set_option maxHeartbeats 4000000 in
set_option maxRecDepth 100000 in
theorem c_X1_becomev01 (l : Launch) (g : GP) (Y : va_W) (ad : Nat → Nat) (x0 : Nat) (x1 : Nat) (hx0 : x0 < 10) (hx1 : x1 < 10) (st : St) {st' : St} (h : f_X1_becomev01 st x0 x1 = some st') : MetV l yX1_become wsX1_become rmX1_becomev01 g (wCX g Y ad) [.ref (ad (7 + x0)), .ref (ad (23 + x1))] st st' := by
  refine metV_of (cc := cX1_become) (nL := 2) (by decide) rfl (Nat.le_of_ble_eq_true rfl) ?_
  intro p e s m below meth c Q A C hret H locs hI ls hl
  have C : Cx p s m _ c cX1_become 2 wsX1_become RX1 g A := C
  obtain ⟨hx, hb, hml, hown, hts⟩ := id C.1
  have hl : lv_has ls 2 [(0, .ref (ad (7 + x0))), (1, .ref (ad (23 + x1)))] := hl
  have hinRX1 : ∀ w ∈ u_ws RX1 TX1 9, w ∈ wsX1_become := by decide +kernel
  have lk9 := hts (.fieldLink RX1 9 "GraveRows$Grave" "kind" "I") (by decide +kernel)
  have lk15 := hts (.fieldLink RX1 15 "GraveRows$Grave" "x" "I") (by decide +kernel)
  have lk18 := hts (.fieldLink RX1 18 "GraveRows$Grave" "y" "I") (by decide +kernel)
  have lk21 := hts (.fieldLink RX1 21 "GraveRows$Grave" "goods" "I") (by decide +kernel)
  have lk24 := hts (.fieldLink RX1 24 "GraveRows$Grave" "from" "I") (by decide +kernel)
  have lk27 := hts (.fieldLink RX1 27 "GraveRows$Grave" "to" "I") (by decide +kernel)
  have lk30 := hts (.fieldLink RX1 30 "GraveRows$Grave" "cuts" "I") (by decide +kernel)
  have lk33 := hts (.fieldLink RX1 33 "GraveRows$Grave" "marksTold" "I") (by decide +kernel)
  have lk36 := hts (.fieldLink RX1 36 "GraveRows$Grave" "marksOfMan" "I") (by decide +kernel)
  rw [f_X1_becomev01] at h
  refine lv_aload_n hx hb dX1_become_0 rfl (lv_at hl 0 rfl) ?_
  refine lv_aload_n hx hb dX1_become_1 rfl (lv_at hl 1 rfl) ?_
  refine w_get (v := .int (st 16 x1)) C hinRX1 hI (23 + x1) (at_V1 hx1) rfl 0 (by decide) lk9 rfl rfl dX1_become_2 ?_
  refine w_put C hinRX1 tyX1 tyX1_ok nmX1 hI (7 + x0) (at_V0 hx0) rfl 0 h (st_V0_kind hx0) (by decide) (Nat.le_of_ble_eq_true rfl) lk9 ⟨rfl, rfl⟩ rfl rfl dX1_become_5 (fun st_1 H locs h hI => ?_)
  refine lv_aload_n hx hb dX1_become_8 rfl (lv_at hl 0 rfl) ?_
  refine lv_aload_n hx hb dX1_become_9 rfl (lv_at hl 1 rfl) ?_
  refine w_get (v := .int (st_1 17 x1)) C hinRX1 hI (23 + x1) (at_V1 hx1) rfl 1 (by decide) lk15 rfl rfl dX1_become_10 ?_
  refine w_put C hinRX1 tyX1 tyX1_ok nmX1 hI (7 + x0) (at_V0 hx0) rfl 1 h (st_V0_x hx0) (by decide) (Nat.le_of_ble_eq_true rfl) lk15 ⟨rfl, rfl⟩ rfl rfl dX1_become_13 (fun st_2 H locs h hI => ?_)
  refine lv_aload_n hx hb dX1_become_16 rfl (lv_at hl 0 rfl) ?_
  refine lv_aload_n hx hb dX1_become_17 rfl (lv_at hl 1 rfl) ?_
  refine w_get (v := .int (st_2 18 x1)) C hinRX1 hI (23 + x1) (at_V1 hx1) rfl 2 (by decide) lk18 rfl rfl dX1_become_18 ?_
  refine w_put C hinRX1 tyX1 tyX1_ok nmX1 hI (7 + x0) (at_V0 hx0) rfl 2 h (st_V0_y hx0) (by decide) (Nat.le_of_ble_eq_true rfl) lk18 ⟨rfl, rfl⟩ rfl rfl dX1_become_21 (fun st_3 H locs h hI => ?_)
  refine lv_aload_n hx hb dX1_become_24 rfl (lv_at hl 0 rfl) ?_
  refine lv_aload_n hx hb dX1_become_25 rfl (lv_at hl 1 rfl) ?_
  refine w_get (v := .int (st_3 19 x1)) C hinRX1 hI (23 + x1) (at_V1 hx1) rfl 3 (by decide) lk21 rfl rfl dX1_become_26 ?_
  refine w_put C hinRX1 tyX1 tyX1_ok nmX1 hI (7 + x0) (at_V0 hx0) rfl 3 h (st_V0_goods hx0) (by decide) (Nat.le_of_ble_eq_true rfl) lk21 ⟨rfl, rfl⟩ rfl rfl dX1_become_29 (fun st_4 H locs h hI => ?_)
  refine lv_aload_n hx hb dX1_become_32 rfl (lv_at hl 0 rfl) ?_
  refine lv_aload_n hx hb dX1_become_33 rfl (lv_at hl 1 rfl) ?_
  refine w_get (v := .int (st_4 20 x1)) C hinRX1 hI (23 + x1) (at_V1 hx1) rfl 4 (by decide) lk24 rfl rfl dX1_become_34 ?_
  refine w_put C hinRX1 tyX1 tyX1_ok nmX1 hI (7 + x0) (at_V0 hx0) rfl 4 h (st_V0_from hx0) (by decide) (Nat.le_of_ble_eq_true rfl) lk24 ⟨rfl, rfl⟩ rfl rfl dX1_become_37 (fun st_5 H locs h hI => ?_)
  refine lv_aload_n hx hb dX1_become_40 rfl (lv_at hl 0 rfl) ?_
  refine lv_aload_n hx hb dX1_become_41 rfl (lv_at hl 1 rfl) ?_
  refine w_get (v := .int (st_5 21 x1)) C hinRX1 hI (23 + x1) (at_V1 hx1) rfl 5 (by decide) lk27 rfl rfl dX1_become_42 ?_
  refine w_put C hinRX1 tyX1 tyX1_ok nmX1 hI (7 + x0) (at_V0 hx0) rfl 5 h (st_V0_to hx0) (by decide) (Nat.le_of_ble_eq_true rfl) lk27 ⟨rfl, rfl⟩ rfl rfl dX1_become_45 (fun st_6 H locs h hI => ?_)
  refine lv_aload_n hx hb dX1_become_48 rfl (lv_at hl 0 rfl) ?_
  refine lv_aload_n hx hb dX1_become_49 rfl (lv_at hl 1 rfl) ?_
  refine w_get (v := .int (st_6 22 x1)) C hinRX1 hI (23 + x1) (at_V1 hx1) rfl 6 (by decide) lk30 rfl rfl dX1_become_50 ?_
  refine w_put C hinRX1 tyX1 tyX1_ok nmX1 hI (7 + x0) (at_V0 hx0) rfl 6 h (st_V0_cuts hx0) (by decide) (Nat.le_of_ble_eq_true rfl) lk30 ⟨rfl, rfl⟩ rfl rfl dX1_become_53 (fun st_7 H locs h hI => ?_)
  refine lv_aload_n hx hb dX1_become_56 rfl (lv_at hl 0 rfl) ?_
  refine lv_aload_n hx hb dX1_become_57 rfl (lv_at hl 1 rfl) ?_
  refine w_get (v := .int (st_7 23 x1)) C hinRX1 hI (23 + x1) (at_V1 hx1) rfl 7 (by decide) lk33 rfl rfl dX1_become_58 ?_
  refine w_put C hinRX1 tyX1 tyX1_ok nmX1 hI (7 + x0) (at_V0 hx0) rfl 7 h (st_V0_marksTold hx0) (by decide) (Nat.le_of_ble_eq_true rfl) lk33 ⟨rfl, rfl⟩ rfl rfl dX1_become_61 (fun st_8 H locs h hI => ?_)
  refine lv_aload_n hx hb dX1_become_64 rfl (lv_at hl 0 rfl) ?_
  refine lv_aload_n hx hb dX1_become_65 rfl (lv_at hl 1 rfl) ?_
  refine w_get (v := .int (st_8 24 x1)) C hinRX1 hI (23 + x1) (at_V1 hx1) rfl 8 (by decide) lk36 rfl rfl dX1_become_66 ?_
  refine w_put C hinRX1 tyX1 tyX1_ok nmX1 hI (7 + x0) (at_V0 hx0) rfl 8 h (st_V0_marksOfMan hx0) (by decide) (Nat.le_of_ble_eq_true rfl) lk36 ⟨rfl, rfl⟩ rfl rfl dX1_become_69 (fun st_9 H locs h hI => ?_)
  obtain rfl := ret1 h
  exact hret H locs _ ls hI dX1_become_72
/-! X1_beginAs -/
def rmX1_beginAs : Room := { frames := 0, cells := 0, slots := 0, locals := 0 }
def f_X1_beginAs (st : St) (x0 : Nat) (x1 : Int32) (x2 : Int32) (x3 : Int32) : Option (St) := bnd (sU st 0 x0 x1) fun st_1 => bnd (sU st_1 1 x0 x2) fun st_2 => bnd (sU st_2 2 x0 x3) fun st_3 => bnd (sU st_3 3 x0 0) fun st_4 => bnd (sU st_4 4 x0 (-5000 : Int32)) fun st_5 => bnd (sU st_5 5 x0 5000) fun st_6 => bnd (sU st_6 6 x0 0) fun st_7 => bnd (sU st_7 7 x0 0) fun st_8 => bnd (sU st_8 8 x0 0) fun st_9 => some st_9
set_option maxHeartbeats 4000000 in
set_option maxRecDepth 100000 in
theorem c_X1_beginAs (l : Launch) (g : GP) (Y : va_W) (ad : Nat → Nat) (x0 : Nat) (x1 : Int32) (x2 : Int32) (x3 : Int32) (hx0 : x0 < 10) (st : St) {st' : St} (h : f_X1_beginAs st x0 x1 x2 x3 = some st') : MetV l yX1_beginAs wsX1_beginAs rmX1_beginAs g (wCX g Y ad) [.ref (ad (7 + x0)), .int x1, .int x2, .int x3] st st' := by
  refine metV_of (cc := cX1_beginAs) (nL := 4) (by decide) rfl (Nat.le_of_ble_eq_true rfl) ?_
  intro p e s m below meth c Q A C hret H locs hI ls hl
  have C : Cx p s m _ c cX1_beginAs 4 wsX1_beginAs RX1 g A := C
  obtain ⟨hx, hb, hml, hown, hts⟩ := id C.1
  have hl : lv_has ls 4 [(0, .ref (ad (7 + x0))), (1, .int x1), (2, .int x2), (3, .int x3)] := hl
  have hinRX1 : ∀ w ∈ u_ws RX1 TX1 9, w ∈ wsX1_beginAs := by decide +kernel
  have lk9 := hts (.fieldLink RX1 9 "GraveRows$Grave" "kind" "I") (by decide +kernel)
  have lk15 := hts (.fieldLink RX1 15 "GraveRows$Grave" "x" "I") (by decide +kernel)
  have lk18 := hts (.fieldLink RX1 18 "GraveRows$Grave" "y" "I") (by decide +kernel)
  have lk21 := hts (.fieldLink RX1 21 "GraveRows$Grave" "goods" "I") (by decide +kernel)
  have lk24 := hts (.fieldLink RX1 24 "GraveRows$Grave" "from" "I") (by decide +kernel)
  have lk27 := hts (.fieldLink RX1 27 "GraveRows$Grave" "to" "I") (by decide +kernel)
  have lk30 := hts (.fieldLink RX1 30 "GraveRows$Grave" "cuts" "I") (by decide +kernel)
  have lk33 := hts (.fieldLink RX1 33 "GraveRows$Grave" "marksTold" "I") (by decide +kernel)
  have lk36 := hts (.fieldLink RX1 36 "GraveRows$Grave" "marksOfMan" "I") (by decide +kernel)
  rw [f_X1_beginAs] at h
  refine lv_aload_n hx hb dX1_beginAs_0 rfl (lv_at hl 0 rfl) ?_
  refine lv_iload_n hx hb dX1_beginAs_1 rfl (lv_at hl 1 rfl) ?_
  refine w_put C hinRX1 tyX1 tyX1_ok nmX1 hI (7 + x0) (at_V0 hx0) rfl 0 h (st_V0_kind hx0) (by decide) (Nat.le_of_ble_eq_true rfl) lk9 ⟨rfl, rfl⟩ rfl rfl dX1_beginAs_2 (fun st_1 H locs h hI => ?_)
  refine lv_aload_n hx hb dX1_beginAs_5 rfl (lv_at hl 0 rfl) ?_
  refine lv_iload_n hx hb dX1_beginAs_6 rfl (lv_at hl 2 rfl) ?_
  refine w_put C hinRX1 tyX1 tyX1_ok nmX1 hI (7 + x0) (at_V0 hx0) rfl 1 h (st_V0_x hx0) (by decide) (Nat.le_of_ble_eq_true rfl) lk15 ⟨rfl, rfl⟩ rfl rfl dX1_beginAs_7 (fun st_2 H locs h hI => ?_)
  refine lv_aload_n hx hb dX1_beginAs_10 rfl (lv_at hl 0 rfl) ?_
  refine lv_iload_n hx hb dX1_beginAs_11 rfl (lv_at hl 3 rfl) ?_
  refine w_put C hinRX1 tyX1 tyX1_ok nmX1 hI (7 + x0) (at_V0 hx0) rfl 2 h (st_V0_y hx0) (by decide) (Nat.le_of_ble_eq_true rfl) lk18 ⟨rfl, rfl⟩ rfl rfl dX1_beginAs_12 (fun st_3 H locs h hI => ?_)
  refine lv_aload_n hx hb dX1_beginAs_15 rfl (lv_at hl 0 rfl) ?_
  refine lv_iconst (v := 0) hx hb dX1_beginAs_16 (by decide) ?_
  refine w_put C hinRX1 tyX1 tyX1_ok nmX1 hI (7 + x0) (at_V0 hx0) rfl 3 h (st_V0_goods hx0) (by decide) (Nat.le_of_ble_eq_true rfl) lk21 ⟨rfl, rfl⟩ rfl rfl dX1_beginAs_17 (fun st_4 H locs h hI => ?_)
  refine lv_aload_n hx hb dX1_beginAs_20 rfl (lv_at hl 0 rfl) ?_
  refine lv_sipush (v := (-5000)) hx hb dX1_beginAs_21 (by decide) ?_
  refine w_put C hinRX1 tyX1 tyX1_ok nmX1 hI (7 + x0) (at_V0 hx0) rfl 4 h (st_V0_from hx0) (by decide) (Nat.le_of_ble_eq_true rfl) lk24 ⟨rfl, rfl⟩ rfl rfl dX1_beginAs_24 (fun st_5 H locs h hI => ?_)
  refine lv_aload_n hx hb dX1_beginAs_27 rfl (lv_at hl 0 rfl) ?_
  refine lv_sipush (v := 5000) hx hb dX1_beginAs_28 (by decide) ?_
  refine w_put C hinRX1 tyX1 tyX1_ok nmX1 hI (7 + x0) (at_V0 hx0) rfl 5 h (st_V0_to hx0) (by decide) (Nat.le_of_ble_eq_true rfl) lk27 ⟨rfl, rfl⟩ rfl rfl dX1_beginAs_31 (fun st_6 H locs h hI => ?_)
  refine lv_aload_n hx hb dX1_beginAs_34 rfl (lv_at hl 0 rfl) ?_
  refine lv_iconst (v := 0) hx hb dX1_beginAs_35 (by decide) ?_
  refine w_put C hinRX1 tyX1 tyX1_ok nmX1 hI (7 + x0) (at_V0 hx0) rfl 6 h (st_V0_cuts hx0) (by decide) (Nat.le_of_ble_eq_true rfl) lk30 ⟨rfl, rfl⟩ rfl rfl dX1_beginAs_36 (fun st_7 H locs h hI => ?_)
  refine lv_aload_n hx hb dX1_beginAs_39 rfl (lv_at hl 0 rfl) ?_
  refine lv_iconst (v := 0) hx hb dX1_beginAs_40 (by decide) ?_
  refine w_put C hinRX1 tyX1 tyX1_ok nmX1 hI (7 + x0) (at_V0 hx0) rfl 7 h (st_V0_marksTold hx0) (by decide) (Nat.le_of_ble_eq_true rfl) lk33 ⟨rfl, rfl⟩ rfl rfl dX1_beginAs_41 (fun st_8 H locs h hI => ?_)
  refine lv_aload_n hx hb dX1_beginAs_44 rfl (lv_at hl 0 rfl) ?_
  refine lv_iconst (v := 0) hx hb dX1_beginAs_45 (by decide) ?_
  refine w_put C hinRX1 tyX1 tyX1_ok nmX1 hI (7 + x0) (at_V0 hx0) rfl 8 h (st_V0_marksOfMan hx0) (by decide) (Nat.le_of_ble_eq_true rfl) lk36 ⟨rfl, rfl⟩ rfl rfl dX1_beginAs_46 (fun st_9 H locs h hI => ?_)
  obtain rfl := ret1 h
  exact hret H locs _ ls hI dX1_beginAs_49
theorem hv_X1_beginAs : yX1_beginAs.cls = RX1 ∧ yX1_beginAs.cls ≠ "java/lang/invoke/MethodHandle" ∧ yX1_beginAs.cls ≠ "java/lang/invoke/VarHandle" ∧ (parseMethodDescriptor yX1_beginAs.desc).map (fun d => d.parameters.length) = some 3 := by decide +kernel
/-! X1_isOfKind -/
def rmX1_isOfKind : Room := { frames := 0, cells := 0, slots := 0, locals := 0 }
def f_X1_isOfKind_L7 (N : Nat) (x1 : Int32) (st : St) (k : Int32 → Int32 → Option (Bool)) : Nat → Int32 → Int32 → Option (Bool)
  | 0, _, _ => none
  | n + 1, x2, x3 => if 4 ≤ x3 then k x2 x3 else if x2 < 0 then k x2 x3 else if x2 = x1 then some true else ck 4 x2 fun j_5 => bnd (kai j_5) fun v_6 => f_X1_isOfKind_L7 N x1 st k n v_6 (x3 + 1)
def f_X1_isOfKind (N : Nat) (st : St) (x0 : Nat) (x1 : Int32) : Option (Bool) := bnd (st 0 x0) fun v_1 => f_X1_isOfKind_L7 N x1 st (fun a_7 a_8 => some false) N v_1 0
set_option maxHeartbeats 4000000 in
set_option maxRecDepth 100000 in
theorem wl_X1_isOfKind_L7 {p : Program} {l : Launch} {e : Env} {s : State} {m : MethodId} {args : Array Value} {below : List Frame} {meth : Method} {c : Code} {Q : State → Prop} {A : Nat → Prop} {g : GP} {Y : va_W} {ad : Nat → Nat} {r : Bool}  (C : Cx p s m args c cX1_isOfKind 4 wsX1_isOfKind RX1 g A) (st : St) (hret : RetI p l e rmX1_isOfKind s m args below meth c Q cX1_isOfKind g A (wCX g Y ad st) (b2i r)) (N : Nat) (x1 : Int32)  (k : Int32 → Int32 → Option (Bool)) (hk : ∀ (x2 : Int32) (x3 : Int32) (H : Heap) (locs : List Loc) (ls : Array Slot), k x2 x3 = some r → IW g A s.heap (wCX g Y ad st) H locs → lv_has ls 4 [(1, .int x1), (2, .int x2), (3, .int x3)] → W p l e rmX1_isOfKind s m args below meth c H locs 0 0 Q (F0 m 35 ls [])) : ∀ (n : Nat) (x2 : Int32) (x3 : Int32) (H : Heap) (locs : List Loc) (ls : Array Slot), f_X1_isOfKind_L7 N x1 st k n x2 x3 = some r → IW g A s.heap (wCX g Y ad st) H locs → lv_has ls 4 [(1, .int x1), (2, .int x2), (3, .int x3)] → W p l e rmX1_isOfKind s m args below meth c H locs 0 0 Q (F0 m 7 ls []) := by
  obtain ⟨hx, hb, hml, hown, hts⟩ := id C.1
  have lk39 := hts (.fieldLink RX1 39 "GraveRows$Grave" "KIND_ABOVE" "[I") (by decide +kernel)
  intro n
  induction n with
  | zero =>
    intro x2 x3 H locs ls h hI hl
    rw [f_X1_isOfKind_L7] at h
    cases h
  | succ n ih =>
    intro x2 x3 H locs ls h hI hl
    rw [f_X1_isOfKind_L7] at h
    refine lv_iload_n hx hb dX1_isOfKind_7 rfl (lv_at hl 2 rfl) ?_
    refine lv_iconst (v := 4) hx hb dX1_isOfKind_8 (by decide) ?_
    refine lv_icmp_ge (tgt := 35) hx hb dX1_isOfKind_9 (by decide) (fun c_2 => ?_) (fun c_2 => ?_)
    · replace h := (if_pos c_2).symm.trans h
      exact hk _ _ _ _ _ h hI (lv_sub hl [0, 1, 2] rfl)
    · replace h := (if_neg c_2).symm.trans h
      refine lv_iload_n hx hb dX1_isOfKind_12 rfl (lv_at hl 1 rfl) ?_
      refine lv_if_lt (tgt := 35) hx hb dX1_isOfKind_13 (by decide) (fun c_3 => ?_) (fun c_3 => ?_)
      · replace h := (if_pos c_3).symm.trans h
        exact hk _ _ _ _ _ h hI (lv_sub hl [0, 1, 2] rfl)
      · replace h := (if_neg c_3).symm.trans h
        refine lv_iload_n hx hb dX1_isOfKind_16 rfl (lv_at hl 1 rfl) ?_
        refine lv_iload_n hx hb dX1_isOfKind_17 rfl (lv_at hl 0 rfl) ?_
        refine lv_icmp_ne (tgt := 23) hx hb dX1_isOfKind_18 (by decide) (fun c_4 => ?_) (fun c_4 => ?_)
        · replace h := (if_neg c_4).symm.trans h
          refine w_kast C hI rfl lk39 dX1_isOfKind_23 ?_
          refine lv_iload_n hx hb dX1_isOfKind_26 rfl (lv_at hl 1 rfl) ?_
          refine w_kald C hI h dX1_isOfKind_27 (fun j_5 hj_5 h => ?_)
          refine gen_i h (fun v_6 h => ?_)
          refine lv_istore_n (lv' := [(2, .int v_6), (1, .int x1), (3, .int x3)]) hx hb dX1_isOfKind_28 rfl hl (by decide) rfl (fun ls hl => ?_)
          refine lv_iinc (v := x3 + 1) (lv' := [(3, .int (x3 + 1)), (2, .int v_6), (1, .int x1)]) hx hb dX1_isOfKind_29 hl (k := 2) rfl rfl (by decide) rfl (fun ls hl => ?_)
          refine lv_goto (tgt := 7) hx hb dX1_isOfKind_32 (by decide) ?_
          exact ih _ _ _ _ _ h hI (lv_sub hl [2, 1, 0] rfl)
        · replace h := (if_pos c_4).symm.trans h
          refine lv_iconst (v := 1) hx hb dX1_isOfKind_21 (by decide) ?_
          obtain rfl := ret1 h
          exact hret H locs _ ls hI dX1_isOfKind_22
set_option maxHeartbeats 4000000 in
set_option maxRecDepth 100000 in
theorem c_X1_isOfKind (l : Launch) (g : GP) (Y : va_W) (ad : Nat → Nat) (N : Nat) (x0 : Nat) (x1 : Int32) (hx0 : x0 < 10) (st : St) {r : Bool}  (h : f_X1_isOfKind N st x0 x1 = some r) : MetI l yX1_isOfKind wsX1_isOfKind rmX1_isOfKind g (wCX g Y ad) [.ref (ad (7 + x0)), .int x1] st (b2i r) st := by
  refine metI_of (cc := cX1_isOfKind) (nL := 4) (ty := .boolean) (by decide) rfl (Nat.le_of_ble_eq_true rfl) (nar_b _) ?_
  intro p e s m below meth c Q A C hret H locs hI ls hl
  have C : Cx p s m _ c cX1_isOfKind 4 wsX1_isOfKind RX1 g A := C
  obtain ⟨hx, hb, hml, hown, hts⟩ := id C.1
  have hl : lv_has ls 4 [(0, .ref (ad (7 + x0))), (1, .int x1)] := hl
  have hinRX1 : ∀ w ∈ u_ws RX1 TX1 9, w ∈ wsX1_isOfKind := by decide +kernel
  have lk9 := hts (.fieldLink RX1 9 "GraveRows$Grave" "kind" "I") (by decide +kernel)
  rw [f_X1_isOfKind] at h
  refine lv_aload_n hx hb dX1_isOfKind_0 rfl (lv_at hl 0 rfl) ?_
  refine w_get (v := .int (st 0 x0)) C hinRX1 hI (7 + x0) (at_V0 hx0) rfl 0 (by decide) lk9 rfl rfl dX1_isOfKind_1 ?_
  refine gen_i h (fun v_1 h => ?_)
  refine lv_istore_n (lv' := [(2, .int v_1), (0, .ref (ad (7 + x0))), (1, .int x1)]) hx hb dX1_isOfKind_4 rfl hl (by decide) rfl (fun ls hl => ?_)
  refine lv_iconst (v := 0) hx hb dX1_isOfKind_5 (by decide) ?_
  refine lv_istore_n (lv' := [(3, .int 0), (2, .int v_1), (0, .ref (ad (7 + x0))), (1, .int x1)]) hx hb dX1_isOfKind_6 rfl hl (by decide) rfl (fun ls hl => ?_)
  refine wl_X1_isOfKind_L7 C st hret N x1 _ (fun a_7 a_8 H locs ls h hI hl => ?_) N v_1 0 H locs ls h hI (lv_sub hl [3, 1, 0] rfl)
  refine lv_iconst (v := 0) hx hb dX1_isOfKind_35 (by decide) ?_
  obtain rfl := ret1 h
  exact hret H locs _ ls hI dX1_isOfKind_36
theorem hv_X1_isOfKind : yX1_isOfKind.cls = RX1 ∧ yX1_isOfKind.cls ≠ "java/lang/invoke/MethodHandle" ∧ yX1_isOfKind.cls ≠ "java/lang/invoke/VarHandle" ∧ (parseMethodDescriptor yX1_isOfKind.desc).map (fun d => d.parameters.length) = some 1 := by decide +kernel
/-! X1_goodsSurelyLacked -/
def rmX1_goodsSurelyLacked : Room := { frames := 1, cells := 0, slots := 0, locals := 23 }
def f_X1_goodsSurelyLacked (N : Nat) (st : St) (x0 : Nat) : Option (Int32) := bd1 (f_X1_isOfKind N st x0 1) fun r_2 => if b2i r_2 = 0 then some ((4095 : Int32) &&& ((st 3 x0) ^^^ (-1 : Int32))) else some 0
set_option maxHeartbeats 4000000 in
set_option maxRecDepth 100000 in
theorem c_X1_goodsSurelyLacked (l : Launch) (g : GP) (Y : va_W) (ad : Nat → Nat) (N : Nat) (x0 : Nat) (hx0 : x0 < 10) (st : St) {r : Int32}  (h : f_X1_goodsSurelyLacked N st x0 = some r) : MetI l yX1_goodsSurelyLacked wsX1_goodsSurelyLacked rmX1_goodsSurelyLacked g (wCX g Y ad) [.ref (ad (7 + x0))] st (r) st := by
  refine metI_of (cc := cX1_goodsSurelyLacked) (nL := 1) (ty := .int) (by decide) rfl (Nat.le_of_ble_eq_true rfl) rfl ?_
  intro p e s m below meth c Q A C hret H locs hI ls hl
  have C : Cx p s m _ c cX1_goodsSurelyLacked 1 wsX1_goodsSurelyLacked RX1 g A := C
  obtain ⟨hx, hb, hml, hown, hts⟩ := id C.1
  have hl : lv_has ls 1 [(0, .ref (ad (7 + x0)))] := hl
  have hinRX1 : ∀ w ∈ u_ws RX1 TX1 9, w ∈ wsX1_goodsSurelyLacked := by decide +kernel
  have lk21 := hts (.fieldLink RX1 21 "GraveRows$Grave" "goods" "I") (by decide +kernel)
  rw [f_X1_goodsSurelyLacked] at h
  refine lv_aload_n hx hb dX1_goodsSurelyLacked_0 rfl (lv_at hl 0 rfl) ?_
  refine lv_iconst (v := 1) hx hb dX1_goodsSurelyLacked_1 (by decide) ?_
  obtain ⟨r_2, hr_1, h⟩ := bd1_some h
  refine callV_I (rest := []) C hI (c_X1_isOfKind l g Y ad N x0 1 hx0 st hr_1) (cwV 1 hts gX1_goodsSurelyLacked_X1_isOfKind rfl rfl rfl hv_X1_isOfKind ⟨Nat.le_of_ble_eq_true rfl, Nat.le_of_ble_eq_true rfl⟩) (w_recv C hI (7 + x0) (at_V0 hx0) rfl) rfl hl.1 rfl (Nat.le_of_ble_eq_true rfl) dX1_goodsSurelyLacked_2 (fun H locs hI => ?_)
  refine lv_if_eq (tgt := 12) hx hb dX1_goodsSurelyLacked_5 (by decide) (fun c_3 => ?_) (fun c_3 => ?_)
  · replace h := (if_pos c_3).symm.trans h
    refine lv_sipush (v := 4095) hx hb dX1_goodsSurelyLacked_12 (by decide) ?_
    refine lv_aload_n hx hb dX1_goodsSurelyLacked_15 rfl (lv_at hl 0 rfl) ?_
    refine w_get (v := .int (st 3 x0)) C hinRX1 hI (7 + x0) (at_V0 hx0) rfl 3 (by decide) lk21 rfl rfl dX1_goodsSurelyLacked_16 ?_
    refine lv_iconst (v := (-1)) hx hb dX1_goodsSurelyLacked_19 (by decide) ?_
    refine lv_ixor hx hb dX1_goodsSurelyLacked_20 ?_
    refine lv_iand hx hb dX1_goodsSurelyLacked_21 ?_
    obtain rfl := ret1 h
    exact hret H locs _ ls hI dX1_goodsSurelyLacked_22
  · replace h := (if_neg c_3).symm.trans h
    refine lv_iconst (v := 0) hx hb dX1_goodsSurelyLacked_8 (by decide) ?_
    refine lv_goto (tgt := 22) hx hb dX1_goodsSurelyLacked_9 (by decide) ?_
    obtain rfl := ret1 h
    exact hret H locs _ ls hI dX1_goodsSurelyLacked_22
theorem hv_X1_goodsSurelyLacked : yX1_goodsSurelyLacked.cls = RX1 ∧ yX1_goodsSurelyLacked.cls ≠ "java/lang/invoke/MethodHandle" ∧ yX1_goodsSurelyLacked.cls ≠ "java/lang/invoke/VarHandle" ∧ (parseMethodDescriptor yX1_goodsSurelyLacked.desc).map (fun d => d.parameters.length) = some 0 := by decide +kernel
/-! X1_isWithin -/
def rmX1_isWithin : Room := { frames := 1, cells := 0, slots := 0, locals := 24 }
def f_X1_isWithin (st : St) (x0 : Nat) (x1 : Int32) (x2 : Nat) : Bool := if x1 < iabs ((st 1 x0) - (st 1 x2)) then false else if x1 < iabs ((st 2 x0) - (st 2 x2)) then false else true
set_option maxHeartbeats 4000000 in
set_option maxRecDepth 100000 in
theorem c_X1_isWithin (l : Launch) (g : GP) (Y : va_W) (ad : Nat → Nat) (x0 : Nat) (x1 : Int32) (x2 : Nat) (hx0 : x0 < 10) (hx2 : x2 < 10) (st : St) : MetI l yX1_isWithin wsX1_isWithin rmX1_isWithin g (wCX g Y ad) [.ref (ad (7 + x0)), .int x1, .ref (ad (7 + x2))] st (b2i (f_X1_isWithin st x0 x1 x2)) st := by
  refine metI_of (cc := cX1_isWithin) (nL := 3) (ty := .boolean) (by decide) rfl (Nat.le_of_ble_eq_true rfl) (nar_b _) ?_
  intro p e s m below meth c Q A C hret H locs hI ls hl
  have C : Cx p s m _ c cX1_isWithin 3 wsX1_isWithin RX1 g A := C
  obtain ⟨hx, hb, hml, hown, hts⟩ := id C.1
  have hl : lv_has ls 3 [(0, .ref (ad (7 + x0))), (1, .int x1), (2, .ref (ad (7 + x2)))] := hl
  have hinRX1 : ∀ w ∈ u_ws RX1 TX1 9, w ∈ wsX1_isWithin := by decide +kernel
  have lk15 := hts (.fieldLink RX1 15 "GraveRows$Grave" "x" "I") (by decide +kernel)
  have ml47 := hts (.methodLink RX1 47 Lib.Math.abs.name) (by decide +kernel)
  have msabs := hts (.static Lib.Math.abs.name) (by decide +kernel)
  have mini := hts (.initialized "java/lang/Math") (by decide +kernel)
  have mcabs := hts (.code Lib.Math.abs.name Lib.Math.abs.code 1 (some .int)) (by decide +kernel)
  have lk18 := hts (.fieldLink RX1 18 "GraveRows$Grave" "y" "I") (by decide +kernel)
  generalize hgen : f_X1_isWithin st x0 x1 x2 = r at hret
  have h := hgen
  rw [f_X1_isWithin] at h
  refine lv_aload_n hx hb dX1_isWithin_0 rfl (lv_at hl 0 rfl) ?_
  refine w_get (v := .int (st 1 x0)) C hinRX1 hI (7 + x0) (at_V0 hx0) rfl 1 (by decide) lk15 rfl rfl dX1_isWithin_1 ?_
  refine lv_aload_n hx hb dX1_isWithin_4 rfl (lv_at hl 2 rfl) ?_
  refine w_get (v := .int (st 1 x2)) C hinRX1 hI (7 + x2) (at_V0 hx2) rfl 1 (by decide) lk15 rfl rfl dX1_isWithin_5 ?_
  refine lv_isub hx hb dX1_isWithin_8 ?_
  refine w_mabs hx hb (hml.trans hl.1.symm) hown ml47 msabs mini mcabs (Nat.le_of_ble_eq_true rfl) (Nat.le_of_ble_eq_true rfl) dX1_isWithin_9 ?_
  refine lv_iload_n hx hb dX1_isWithin_12 rfl (lv_at hl 1 rfl) ?_
  refine lv_icmp_gt (tgt := 36) hx hb dX1_isWithin_13 (by decide) (fun c_1 => ?_) (fun c_1 => ?_)
  · replace h := (if_pos c_1).symm.trans h
    refine lv_iconst (v := 0) hx hb dX1_isWithin_36 (by decide) ?_
    subst h
    exact hret H locs _ ls hI dX1_isWithin_37
  · replace h := (if_neg c_1).symm.trans h
    refine lv_aload_n hx hb dX1_isWithin_16 rfl (lv_at hl 0 rfl) ?_
    refine w_get (v := .int (st 2 x0)) C hinRX1 hI (7 + x0) (at_V0 hx0) rfl 2 (by decide) lk18 rfl rfl dX1_isWithin_17 ?_
    refine lv_aload_n hx hb dX1_isWithin_20 rfl (lv_at hl 2 rfl) ?_
    refine w_get (v := .int (st 2 x2)) C hinRX1 hI (7 + x2) (at_V0 hx2) rfl 2 (by decide) lk18 rfl rfl dX1_isWithin_21 ?_
    refine lv_isub hx hb dX1_isWithin_24 ?_
    refine w_mabs hx hb (hml.trans hl.1.symm) hown ml47 msabs mini mcabs (Nat.le_of_ble_eq_true rfl) (Nat.le_of_ble_eq_true rfl) dX1_isWithin_25 ?_
    refine lv_iload_n hx hb dX1_isWithin_28 rfl (lv_at hl 1 rfl) ?_
    refine lv_icmp_gt (tgt := 36) hx hb dX1_isWithin_29 (by decide) (fun c_2 => ?_) (fun c_2 => ?_)
    · replace h := (if_pos c_2).symm.trans h
      refine lv_iconst (v := 0) hx hb dX1_isWithin_36 (by decide) ?_
      subst h
      exact hret H locs _ ls hI dX1_isWithin_37
    · replace h := (if_neg c_2).symm.trans h
      refine lv_iconst (v := 1) hx hb dX1_isWithin_32 (by decide) ?_
      refine lv_goto (tgt := 37) hx hb dX1_isWithin_33 (by decide) ?_
      subst h
      exact hret H locs _ ls hI dX1_isWithin_37
theorem hv_X1_isWithin : yX1_isWithin.cls = RX1 ∧ yX1_isWithin.cls ≠ "java/lang/invoke/MethodHandle" ∧ yX1_isWithin.cls ≠ "java/lang/invoke/VarHandle" ∧ (parseMethodDescriptor yX1_isWithin.desc).map (fun d => d.parameters.length) = some 2 := by decide +kernel
/-! X1_setMark -/
def rmX1_setMark : Room := { frames := 0, cells := 0, slots := 0, locals := 0 }
def f_X1_setMark (st : St) (x0 : Nat) (x1 : Int32) (x2 : Bool) : Option (Bool × St) := bnd ((1 : Int32) <<< (x1 &&& 31)) fun v_1 => if (st 7 x0) &&& v_1 = 0 then bnd (sU st 7 x0 ((st 7 x0) ||| v_1)) fun st_7 => if b2i x2 = 0 then bnd (sU st_7 8 x0 ((st_7 8 x0) &&& (v_1 ^^^ (-1 : Int32)))) fun st_9 => some (true, st_9) else bnd (sU st_7 8 x0 ((st_7 8 x0) ||| v_1)) fun st_10 => some (true, st_10) else bnd (sU st 7 x0 ((st 7 x0) ||| v_1)) fun st_3 => if b2i x2 = 0 then bnd (sU st_3 8 x0 ((st_3 8 x0) &&& (v_1 ^^^ (-1 : Int32)))) fun st_5 => some (false, st_5) else bnd (sU st_3 8 x0 ((st_3 8 x0) ||| v_1)) fun st_6 => some (false, st_6)
set_option maxHeartbeats 4000000 in
set_option maxRecDepth 100000 in
theorem c_X1_setMark (l : Launch) (g : GP) (Y : va_W) (ad : Nat → Nat) (x0 : Nat) (x1 : Int32) (x2 : Bool) (hx0 : x0 < 10) (st : St) {r : Bool} {st' : St} (h : f_X1_setMark st x0 x1 x2 = some (r, st')) : MetI l yX1_setMark wsX1_setMark rmX1_setMark g (wCX g Y ad) [.ref (ad (7 + x0)), .int x1, .int (b2i x2)] st (b2i r) st' := by
  refine metI_of (cc := cX1_setMark) (nL := 5) (ty := .boolean) (by decide) rfl (Nat.le_of_ble_eq_true rfl) (nar_b _) ?_
  intro p e s m below meth c Q A C hret H locs hI ls hl
  have C : Cx p s m _ c cX1_setMark 5 wsX1_setMark RX1 g A := C
  obtain ⟨hx, hb, hml, hown, hts⟩ := id C.1
  have hl : lv_has ls 5 [(0, .ref (ad (7 + x0))), (1, .int x1), (2, .int (b2i x2))] := hl
  have hinRX1 : ∀ w ∈ u_ws RX1 TX1 9, w ∈ wsX1_setMark := by decide +kernel
  have lk33 := hts (.fieldLink RX1 33 "GraveRows$Grave" "marksTold" "I") (by decide +kernel)
  have lk36 := hts (.fieldLink RX1 36 "GraveRows$Grave" "marksOfMan" "I") (by decide +kernel)
  rw [f_X1_setMark] at h
  refine lv_iconst (v := 1) hx hb dX1_setMark_0 (by decide) ?_
  refine lv_iload_n hx hb dX1_setMark_1 rfl (lv_at hl 1 rfl) ?_
  refine lv_ishl hx hb dX1_setMark_2 ?_
  refine gen_i h (fun v_1 h => ?_)
  refine lv_istore_n (lv' := [(3, .int v_1), (0, .ref (ad (7 + x0))), (1, .int x1), (2, .int (b2i x2))]) hx hb dX1_setMark_3 rfl hl (by decide) rfl (fun ls hl => ?_)
  refine lv_aload_n hx hb dX1_setMark_4 rfl (lv_at hl 1 rfl) ?_
  refine w_get (v := .int (st 7 x0)) C hinRX1 hI (7 + x0) (at_V0 hx0) rfl 7 (by decide) lk33 rfl rfl dX1_setMark_5 ?_
  refine lv_iload_n hx hb dX1_setMark_8 rfl (lv_at hl 0 rfl) ?_
  refine lv_iand hx hb dX1_setMark_9 ?_
  refine lv_if_ne (tgt := 17) hx hb dX1_setMark_10 (by decide) (fun c_2 => ?_) (fun c_2 => ?_)
  · replace h := (if_neg c_2).symm.trans h
    refine lv_iconst (v := 0) hx hb dX1_setMark_17 (by decide) ?_
    refine lv_istore (lv' := [(4, .int 0), (3, .int v_1), (0, .ref (ad (7 + x0))), (1, .int x1), (2, .int (b2i x2))]) hx hb dX1_setMark_18 hl (by decide) rfl (fun ls hl => ?_)
    refine lv_aload_n hx hb dX1_setMark_20 rfl (lv_at hl 2 rfl) ?_
    refine lv_dup hx hb dX1_setMark_21 rfl ?_
    refine w_get (v := .int (st 7 x0)) C hinRX1 hI (7 + x0) (at_V0 hx0) rfl 7 (by decide) lk33 rfl rfl dX1_setMark_22 ?_
    refine lv_iload_n hx hb dX1_setMark_25 rfl (lv_at hl 1 rfl) ?_
    refine lv_ior hx hb dX1_setMark_26 ?_
    refine w_put C hinRX1 tyX1 tyX1_ok nmX1 hI (7 + x0) (at_V0 hx0) rfl 7 h (st_V0_marksTold hx0) (by decide) (Nat.le_of_ble_eq_true rfl) lk33 ⟨rfl, rfl⟩ rfl rfl dX1_setMark_27 (fun st_3 H locs h hI => ?_)
    refine lv_aload_n hx hb dX1_setMark_30 rfl (lv_at hl 2 rfl) ?_
    refine lv_iload_n hx hb dX1_setMark_31 rfl (lv_at hl 4 rfl) ?_
    refine lv_if_eq (tgt := 44) hx hb dX1_setMark_32 (by decide) (fun c_4 => ?_) (fun c_4 => ?_)
    · replace h := (if_pos c_4).symm.trans h
      refine lv_aload_n hx hb dX1_setMark_44 rfl (lv_at hl 2 rfl) ?_
      refine w_get (v := .int (st_3 8 x0)) C hinRX1 hI (7 + x0) (at_V0 hx0) rfl 8 (by decide) lk36 rfl rfl dX1_setMark_45 ?_
      refine lv_iload_n hx hb dX1_setMark_48 rfl (lv_at hl 1 rfl) ?_
      refine lv_iconst (v := (-1)) hx hb dX1_setMark_49 (by decide) ?_
      refine lv_ixor hx hb dX1_setMark_50 ?_
      refine lv_iand hx hb dX1_setMark_51 ?_
      refine w_put C hinRX1 tyX1 tyX1_ok nmX1 hI (7 + x0) (at_V0 hx0) rfl 8 h (st_V0_marksOfMan hx0) (by decide) (Nat.le_of_ble_eq_true rfl) lk36 ⟨rfl, rfl⟩ rfl rfl dX1_setMark_52 (fun st_5 H locs h hI => ?_)
      refine lv_iload hx hb dX1_setMark_55 (lv_at hl 0 rfl) ?_
      obtain ⟨rfl, rfl⟩ := ret2 h
      exact hret H locs _ ls hI dX1_setMark_57
    · replace h := (if_neg c_4).symm.trans h
      refine lv_aload_n hx hb dX1_setMark_35 rfl (lv_at hl 2 rfl) ?_
      refine w_get (v := .int (st_3 8 x0)) C hinRX1 hI (7 + x0) (at_V0 hx0) rfl 8 (by decide) lk36 rfl rfl dX1_setMark_36 ?_
      refine lv_iload_n hx hb dX1_setMark_39 rfl (lv_at hl 1 rfl) ?_
      refine lv_ior hx hb dX1_setMark_40 ?_
      refine lv_goto (tgt := 52) hx hb dX1_setMark_41 (by decide) ?_
      refine w_put C hinRX1 tyX1 tyX1_ok nmX1 hI (7 + x0) (at_V0 hx0) rfl 8 h (st_V0_marksOfMan hx0) (by decide) (Nat.le_of_ble_eq_true rfl) lk36 ⟨rfl, rfl⟩ rfl rfl dX1_setMark_52 (fun st_6 H locs h hI => ?_)
      refine lv_iload hx hb dX1_setMark_55 (lv_at hl 0 rfl) ?_
      obtain ⟨rfl, rfl⟩ := ret2 h
      exact hret H locs _ ls hI dX1_setMark_57
  · replace h := (if_pos c_2).symm.trans h
    refine lv_iconst (v := 1) hx hb dX1_setMark_13 (by decide) ?_
    refine lv_goto (tgt := 18) hx hb dX1_setMark_14 (by decide) ?_
    refine lv_istore (lv' := [(4, .int 1), (3, .int v_1), (0, .ref (ad (7 + x0))), (1, .int x1), (2, .int (b2i x2))]) hx hb dX1_setMark_18 hl (by decide) rfl (fun ls hl => ?_)
    refine lv_aload_n hx hb dX1_setMark_20 rfl (lv_at hl 2 rfl) ?_
    refine lv_dup hx hb dX1_setMark_21 rfl ?_
    refine w_get (v := .int (st 7 x0)) C hinRX1 hI (7 + x0) (at_V0 hx0) rfl 7 (by decide) lk33 rfl rfl dX1_setMark_22 ?_
    refine lv_iload_n hx hb dX1_setMark_25 rfl (lv_at hl 1 rfl) ?_
    refine lv_ior hx hb dX1_setMark_26 ?_
    refine w_put C hinRX1 tyX1 tyX1_ok nmX1 hI (7 + x0) (at_V0 hx0) rfl 7 h (st_V0_marksTold hx0) (by decide) (Nat.le_of_ble_eq_true rfl) lk33 ⟨rfl, rfl⟩ rfl rfl dX1_setMark_27 (fun st_7 H locs h hI => ?_)
    refine lv_aload_n hx hb dX1_setMark_30 rfl (lv_at hl 2 rfl) ?_
    refine lv_iload_n hx hb dX1_setMark_31 rfl (lv_at hl 4 rfl) ?_
    refine lv_if_eq (tgt := 44) hx hb dX1_setMark_32 (by decide) (fun c_8 => ?_) (fun c_8 => ?_)
    · replace h := (if_pos c_8).symm.trans h
      refine lv_aload_n hx hb dX1_setMark_44 rfl (lv_at hl 2 rfl) ?_
      refine w_get (v := .int (st_7 8 x0)) C hinRX1 hI (7 + x0) (at_V0 hx0) rfl 8 (by decide) lk36 rfl rfl dX1_setMark_45 ?_
      refine lv_iload_n hx hb dX1_setMark_48 rfl (lv_at hl 1 rfl) ?_
      refine lv_iconst (v := (-1)) hx hb dX1_setMark_49 (by decide) ?_
      refine lv_ixor hx hb dX1_setMark_50 ?_
      refine lv_iand hx hb dX1_setMark_51 ?_
      refine w_put C hinRX1 tyX1 tyX1_ok nmX1 hI (7 + x0) (at_V0 hx0) rfl 8 h (st_V0_marksOfMan hx0) (by decide) (Nat.le_of_ble_eq_true rfl) lk36 ⟨rfl, rfl⟩ rfl rfl dX1_setMark_52 (fun st_9 H locs h hI => ?_)
      refine lv_iload hx hb dX1_setMark_55 (lv_at hl 0 rfl) ?_
      obtain ⟨rfl, rfl⟩ := ret2 h
      exact hret H locs _ ls hI dX1_setMark_57
    · replace h := (if_neg c_8).symm.trans h
      refine lv_aload_n hx hb dX1_setMark_35 rfl (lv_at hl 2 rfl) ?_
      refine w_get (v := .int (st_7 8 x0)) C hinRX1 hI (7 + x0) (at_V0 hx0) rfl 8 (by decide) lk36 rfl rfl dX1_setMark_36 ?_
      refine lv_iload_n hx hb dX1_setMark_39 rfl (lv_at hl 1 rfl) ?_
      refine lv_ior hx hb dX1_setMark_40 ?_
      refine lv_goto (tgt := 52) hx hb dX1_setMark_41 (by decide) ?_
      refine w_put C hinRX1 tyX1 tyX1_ok nmX1 hI (7 + x0) (at_V0 hx0) rfl 8 h (st_V0_marksOfMan hx0) (by decide) (Nat.le_of_ble_eq_true rfl) lk36 ⟨rfl, rfl⟩ rfl rfl dX1_setMark_52 (fun st_10 H locs h hI => ?_)
      refine lv_iload hx hb dX1_setMark_55 (lv_at hl 0 rfl) ?_
      obtain ⟨rfl, rfl⟩ := ret2 h
      exact hret H locs _ ls hI dX1_setMark_57
theorem hv_X1_setMark : yX1_setMark.cls = RX1 ∧ yX1_setMark.cls ≠ "java/lang/invoke/MethodHandle" ∧ yX1_setMark.cls ≠ "java/lang/invoke/VarHandle" ∧ (parseMethodDescriptor yX1_setMark.desc).map (fun d => d.parameters.length) = some 2 := by decide +kernel
/-! X4_isMissing -/
def rmX4_isMissing : Room := { frames := 0, cells := 0, slots := 0, locals := 0 }
def f_X4_isMissing (st : St) (x0 : Nat) : Bool := if st 36 x0 = 0 then true else false
set_option maxHeartbeats 4000000 in
set_option maxRecDepth 100000 in
theorem c_X4_isMissing (l : Launch) (g : GP) (Y : va_W) (ad : Nat → Nat) (x0 : Nat) (hx0 : x0 < 4) (st : St) : MetI l yX4_isMissing wsX4_isMissing rmX4_isMissing g (wCX g Y ad) [.ref (ad (34 + x0))] st (b2i (f_X4_isMissing st x0)) st := by
  refine metI_of (cc := cX4_isMissing) (nL := 1) (ty := .boolean) (by decide) rfl (Nat.le_of_ble_eq_true rfl) (nar_b _) ?_
  intro p e s m below meth c Q A C hret H locs hI ls hl
  have C : Cx p s m _ c cX4_isMissing 1 wsX4_isMissing RX4 g A := C
  obtain ⟨hx, hb, hml, hown, hts⟩ := id C.1
  have hl : lv_has ls 1 [(0, .ref (ad (34 + x0)))] := hl
  have hinRX4 : ∀ w ∈ u_ws RX4 TX4 3, w ∈ wsX4_isMissing := by decide +kernel
  have lk15 := hts (.fieldLink RX4 15 "GraveRows$Sheet" "bits" "I") (by decide +kernel)
  generalize hgen : f_X4_isMissing st x0 = r at hret
  have h := hgen
  rw [f_X4_isMissing] at h
  refine lv_aload_n hx hb dX4_isMissing_0 rfl (lv_at hl 0 rfl) ?_
  refine w_get (v := .int (st 36 x0)) C hinRX4 hI (34 + x0) (at_S hx0) rfl 1 (by decide) lk15 rfl rfl dX4_isMissing_1 ?_
  refine lv_if_ne (tgt := 11) hx hb dX4_isMissing_4 (by decide) (fun c_1 => ?_) (fun c_1 => ?_)
  · replace h := (if_neg c_1).symm.trans h
    refine lv_iconst (v := 0) hx hb dX4_isMissing_11 (by decide) ?_
    subst h
    exact hret H locs _ ls hI dX4_isMissing_12
  · replace h := (if_pos c_1).symm.trans h
    refine lv_iconst (v := 1) hx hb dX4_isMissing_7 (by decide) ?_
    refine lv_goto (tgt := 12) hx hb dX4_isMissing_8 (by decide) ?_
    subst h
    exact hret H locs _ ls hI dX4_isMissing_12
theorem hv_X4_isMissing : yX4_isMissing.cls = RX4 ∧ yX4_isMissing.cls ≠ "java/lang/invoke/MethodHandle" ∧ yX4_isMissing.cls ≠ "java/lang/invoke/VarHandle" ∧ (parseMethodDescriptor yX4_isMissing.desc).map (fun d => d.parameters.length) = some 0 := by decide +kernel
/-! X4_become -/
def rmX4_become : Room := { frames := 0, cells := 0, slots := 0, locals := 0 }
def f_X4_become_L20 (N : Nat) (y0 : Nat) (k : Int32 → St → Option (St)) : Nat → Int32 → St → Option (St)
  | 0, _, _ => none
  | n + 1, x3, st => if 12 ≤ x3 then k x3 st else sto 12 st (32 + y0) x3 0 fun st_5 => f_X4_become_L20 N y0 k n (x3 + 1) st_5
def f_X4_become (N : Nat) (st : St) (x0 : Nat) (x1 : Int32) (x2 : Int32) : Option (St) := bnd (sU st 36 x0 x1) fun st_1 => if x1 = 0 then bnd (sU st_1 37 x0 0) fun st_8 => f_X4_become_L20 N x0 (fun a_9 st_10 => some st_10) N 0 st_8 else bnd (sU st_1 37 x0 x2) fun st_3 => f_X4_become_L20 N x0 (fun a_6 st_7 => some st_7) N 0 st_3
set_option maxHeartbeats 4000000 in
set_option maxRecDepth 100000 in
theorem wl_X4_become_L20 {p : Program} {l : Launch} {e : Env} {s : State} {m : MethodId} {args : Array Value} {below : List Frame} {meth : Method} {c : Code} {Q : State → Prop} {A : Nat → Prop} {g : GP} {Y : va_W} {ad : Nat → Nat} {st' : St} (C : Cx p s m args c cX4_become 4 wsX4_become RX4 g A) (hret : RetV p l e rmX4_become s m args below meth c Q cX4_become g A (wCX g Y ad st')) (N : Nat) (y0 : Nat) (hy0 : y0 < 4) (k : Int32 → St → Option (St)) (hk : ∀ (x3 : Int32) (st : St) (H : Heap) (locs : List Loc) (ls : Array Slot), k x3 st = some st' → IW g A s.heap (wCX g Y ad st) H locs → lv_has ls 4 [(0, .ref (ad (34 + y0))), (3, .int x3)] → W p l e rmX4_become s m args below meth c H locs 0 0 Q (F0 m 39 ls [])) : ∀ (n : Nat) (x3 : Int32) (st : St) (H : Heap) (locs : List Loc) (ls : Array Slot), f_X4_become_L20 N y0 k n x3 st = some st' → IW g A s.heap (wCX g Y ad st) H locs → lv_has ls 4 [(0, .ref (ad (34 + y0))), (3, .int x3)] → W p l e rmX4_become s m args below meth c H locs 0 0 Q (F0 m 20 ls []) := by
  obtain ⟨hx, hb, hml, hown, hts⟩ := id C.1
  have hinRX4 : ∀ w ∈ u_ws RX4 TX4 3, w ∈ wsX4_become := by decide +kernel
  have lk9 := hts (.fieldLink RX4 9 "GraveRows$Sheet" "numbers" "[I") (by decide +kernel)
  intro n
  induction n with
  | zero =>
    intro x3 st H locs ls h hI hl
    rw [f_X4_become_L20] at h
    cases h
  | succ n ih =>
    intro x3 st H locs ls h hI hl
    rw [f_X4_become_L20] at h
    refine lv_iload_n hx hb dX4_become_20 rfl (lv_at hl 1 rfl) ?_
    refine lv_bipush (v := 12) hx hb dX4_become_21 (by decide) ?_
    refine lv_icmp_ge (tgt := 39) hx hb dX4_become_23 (by decide) (fun c_4 => ?_) (fun c_4 => ?_)
    · replace h := (if_pos c_4).symm.trans h
      exact hk _ _ _ _ _ h hI (lv_sub hl [0, 1] rfl)
    · replace h := (if_neg c_4).symm.trans h
      refine lv_aload_n hx hb dX4_become_26 rfl (lv_at hl 0 rfl) ?_
      refine w_get (v := .ref (ad (38 + y0))) C hinRX4 hI (34 + y0) (at_S hy0) rfl 0 (by decide) lk9 rfl rfl dX4_become_27 ?_
      refine lv_iload_n hx hb dX4_become_30 rfl (lv_at hl 1 rfl) ?_
      refine lv_iconst (v := 0) hx hb dX4_become_31 (by decide) ?_
      refine w_st C hI (38 + y0) (ar_S hy0) (sa_S hy0) h dX4_become_32 (fun st_5 H locs h hI => ?_)
      refine lv_iinc (v := x3 + 1) (lv' := [(3, .int (x3 + 1)), (0, .ref (ad (34 + y0)))]) hx hb dX4_become_33 hl (k := 1) rfl rfl (by decide) rfl (fun ls hl => ?_)
      refine lv_goto (tgt := 20) hx hb dX4_become_36 (by decide) ?_
      exact ih _ _ _ _ _ h hI (lv_sub hl [1, 0] rfl)
set_option maxHeartbeats 4000000 in
set_option maxRecDepth 100000 in
theorem c_X4_become (l : Launch) (g : GP) (Y : va_W) (ad : Nat → Nat) (N : Nat) (x0 : Nat) (x1 : Int32) (x2 : Int32) (hx0 : x0 < 4) (st : St) {st' : St} (h : f_X4_become N st x0 x1 x2 = some st') : MetV l yX4_become wsX4_become rmX4_become g (wCX g Y ad) [.ref (ad (34 + x0)), .int x1, .int x2] st st' := by
  refine metV_of (cc := cX4_become) (nL := 4) (by decide) rfl (Nat.le_of_ble_eq_true rfl) ?_
  intro p e s m below meth c Q A C hret H locs hI ls hl
  have C : Cx p s m _ c cX4_become 4 wsX4_become RX4 g A := C
  obtain ⟨hx, hb, hml, hown, hts⟩ := id C.1
  have hl : lv_has ls 4 [(0, .ref (ad (34 + x0))), (1, .int x1), (2, .int x2)] := hl
  have hinRX4 : ∀ w ∈ u_ws RX4 TX4 3, w ∈ wsX4_become := by decide +kernel
  have lk15 := hts (.fieldLink RX4 15 "GraveRows$Sheet" "bits" "I") (by decide +kernel)
  have lk19 := hts (.fieldLink RX4 19 "GraveRows$Sheet" "length" "I") (by decide +kernel)
  rw [f_X4_become] at h
  refine lv_aload_n hx hb dX4_become_0 rfl (lv_at hl 0 rfl) ?_
  refine lv_iload_n hx hb dX4_become_1 rfl (lv_at hl 1 rfl) ?_
  refine w_put C hinRX4 tyX4 tyX4_ok nmX4 hI (34 + x0) (at_S hx0) rfl 1 h (st_S_bits hx0) (by decide) (Nat.le_of_ble_eq_true rfl) lk15 ⟨rfl, rfl⟩ rfl rfl dX4_become_2 (fun st_1 H locs h hI => ?_)
  refine lv_aload_n hx hb dX4_become_5 rfl (lv_at hl 0 rfl) ?_
  refine lv_iload_n hx hb dX4_become_6 rfl (lv_at hl 1 rfl) ?_
  refine lv_if_ne (tgt := 14) hx hb dX4_become_7 (by decide) (fun c_2 => ?_) (fun c_2 => ?_)
  · replace h := (if_neg c_2).symm.trans h
    refine lv_iload_n hx hb dX4_become_14 rfl (lv_at hl 2 rfl) ?_
    refine w_put C hinRX4 tyX4 tyX4_ok nmX4 hI (34 + x0) (at_S hx0) rfl 2 h (st_S_length hx0) (by decide) (Nat.le_of_ble_eq_true rfl) lk19 ⟨rfl, rfl⟩ rfl rfl dX4_become_15 (fun st_3 H locs h hI => ?_)
    refine lv_iconst (v := 0) hx hb dX4_become_18 (by decide) ?_
    refine lv_istore_n (lv' := [(3, .int 0), (0, .ref (ad (34 + x0))), (1, .int x1), (2, .int x2)]) hx hb dX4_become_19 rfl hl (by decide) rfl (fun ls hl => ?_)
    refine wl_X4_become_L20 C hret N x0 hx0 _ (fun a_6 st_7 H locs ls h hI hl => ?_) N 0 st_3 H locs ls h hI (lv_sub hl [1, 0] rfl)
    obtain rfl := ret1 h
    exact hret H locs _ ls hI dX4_become_39
  · replace h := (if_pos c_2).symm.trans h
    refine lv_iconst (v := 0) hx hb dX4_become_10 (by decide) ?_
    refine lv_goto (tgt := 15) hx hb dX4_become_11 (by decide) ?_
    refine w_put C hinRX4 tyX4 tyX4_ok nmX4 hI (34 + x0) (at_S hx0) rfl 2 h (st_S_length hx0) (by decide) (Nat.le_of_ble_eq_true rfl) lk19 ⟨rfl, rfl⟩ rfl rfl dX4_become_15 (fun st_8 H locs h hI => ?_)
    refine lv_iconst (v := 0) hx hb dX4_become_18 (by decide) ?_
    refine lv_istore_n (lv' := [(3, .int 0), (0, .ref (ad (34 + x0))), (1, .int x1), (2, .int x2)]) hx hb dX4_become_19 rfl hl (by decide) rfl (fun ls hl => ?_)
    refine wl_X4_become_L20 C hret N x0 hx0 _ (fun a_9 st_10 H locs ls h hI hl => ?_) N 0 st_8 H locs ls h hI (lv_sub hl [1, 0] rfl)
    obtain rfl := ret1 h
    exact hret H locs _ ls hI dX4_become_39
theorem hv_X4_become : yX4_become.cls = RX4 ∧ yX4_become.cls ≠ "java/lang/invoke/MethodHandle" ∧ yX4_become.cls ≠ "java/lang/invoke/VarHandle" ∧ (parseMethodDescriptor yX4_become.desc).map (fun d => d.parameters.length) = some 2 := by decide +kernel
/-! X4_write -/
def rmX4_write : Room := { frames := 0, cells := 0, slots := 0, locals := 0 }
def f_X4_write (st : St) (x0 : Nat) (x1 : Int32) (x2 : Int32) : Option (St) := if st 36 x0 = 32 then sto 12 st (32 + x0) x1 x2 fun st_3 => some st_3 else sto 12 st (32 + x0) x1 (x2 &&& (((1 : Int32) <<< ((st 36 x0) &&& 31)) - 1)) fun st_2 => some st_2
set_option maxHeartbeats 4000000 in
set_option maxRecDepth 100000 in
theorem c_X4_write (l : Launch) (g : GP) (Y : va_W) (ad : Nat → Nat) (x0 : Nat) (x1 : Int32) (x2 : Int32) (hx0 : x0 < 4) (st : St) {st' : St} (h : f_X4_write st x0 x1 x2 = some st') : MetV l yX4_write wsX4_write rmX4_write g (wCX g Y ad) [.ref (ad (34 + x0)), .int x1, .int x2] st st' := by
  refine metV_of (cc := cX4_write) (nL := 3) (by decide) rfl (Nat.le_of_ble_eq_true rfl) ?_
  intro p e s m below meth c Q A C hret H locs hI ls hl
  have C : Cx p s m _ c cX4_write 3 wsX4_write RX4 g A := C
  obtain ⟨hx, hb, hml, hown, hts⟩ := id C.1
  have hl : lv_has ls 3 [(0, .ref (ad (34 + x0))), (1, .int x1), (2, .int x2)] := hl
  have hinRX4 : ∀ w ∈ u_ws RX4 TX4 3, w ∈ wsX4_write := by decide +kernel
  have lk9 := hts (.fieldLink RX4 9 "GraveRows$Sheet" "numbers" "[I") (by decide +kernel)
  have lk15 := hts (.fieldLink RX4 15 "GraveRows$Sheet" "bits" "I") (by decide +kernel)
  rw [f_X4_write] at h
  refine lv_aload_n hx hb dX4_write_0 rfl (lv_at hl 0 rfl) ?_
  refine w_get (v := .ref (ad (38 + x0))) C hinRX4 hI (34 + x0) (at_S hx0) rfl 0 (by decide) lk9 rfl rfl dX4_write_1 ?_
  refine lv_iload_n hx hb dX4_write_4 rfl (lv_at hl 1 rfl) ?_
  refine lv_aload_n hx hb dX4_write_5 rfl (lv_at hl 0 rfl) ?_
  refine w_get (v := .int (st 36 x0)) C hinRX4 hI (34 + x0) (at_S hx0) rfl 1 (by decide) lk15 rfl rfl dX4_write_6 ?_
  refine lv_bipush (v := 32) hx hb dX4_write_9 (by decide) ?_
  refine lv_icmp_ne (tgt := 18) hx hb dX4_write_11 (by decide) (fun c_1 => ?_) (fun c_1 => ?_)
  · replace h := (if_neg c_1).symm.trans h
    refine lv_iload_n hx hb dX4_write_18 rfl (lv_at hl 2 rfl) ?_
    refine lv_iconst (v := 1) hx hb dX4_write_19 (by decide) ?_
    refine lv_aload_n hx hb dX4_write_20 rfl (lv_at hl 0 rfl) ?_
    refine w_get (v := .int (st 36 x0)) C hinRX4 hI (34 + x0) (at_S hx0) rfl 1 (by decide) lk15 rfl rfl dX4_write_21 ?_
    refine lv_ishl hx hb dX4_write_24 ?_
    refine lv_iconst (v := 1) hx hb dX4_write_25 (by decide) ?_
    refine lv_isub hx hb dX4_write_26 ?_
    refine lv_iand hx hb dX4_write_27 ?_
    refine w_st C hI (38 + x0) (ar_S hx0) (sa_S hx0) h dX4_write_28 (fun st_2 H locs h hI => ?_)
    obtain rfl := ret1 h
    exact hret H locs _ ls hI dX4_write_29
  · replace h := (if_pos c_1).symm.trans h
    refine lv_iload_n hx hb dX4_write_14 rfl (lv_at hl 2 rfl) ?_
    refine lv_goto (tgt := 28) hx hb dX4_write_15 (by decide) ?_
    refine w_st C hI (38 + x0) (ar_S hx0) (sa_S hx0) h dX4_write_28 (fun st_3 H locs h hI => ?_)
    obtain rfl := ret1 h
    exact hret H locs _ ls hI dX4_write_29
theorem hv_X4_write : yX4_write.cls = RX4 ∧ yX4_write.cls ≠ "java/lang/invoke/MethodHandle" ∧ yX4_write.cls ≠ "java/lang/invoke/VarHandle" ∧ (parseMethodDescriptor yX4_write.desc).map (fun d => d.parameters.length) = some 2 := by decide +kernel
/-! X4_hasStretch -/
def rmX4_hasStretch : Room := { frames := 0, cells := 0, slots := 0, locals := 0 }
def f_X4_hasStretch (st : St) (x0 : Nat) (x1 : Int32) (x2 : Int32) : Bool := if x1 < 0 then false else if x2 < 0 then false else if st 37 x0 < x2 then false else if (st 37 x0) - x2 < x1 then false else true
set_option maxHeartbeats 4000000 in
set_option maxRecDepth 100000 in
theorem c_X4_hasStretch (l : Launch) (g : GP) (Y : va_W) (ad : Nat → Nat) (x0 : Nat) (x1 : Int32) (x2 : Int32) (hx0 : x0 < 4) (st : St) : MetI l yX4_hasStretch wsX4_hasStretch rmX4_hasStretch g (wCX g Y ad) [.ref (ad (34 + x0)), .int x1, .int x2] st (b2i (f_X4_hasStretch st x0 x1 x2)) st := by
  refine metI_of (cc := cX4_hasStretch) (nL := 3) (ty := .boolean) (by decide) rfl (Nat.le_of_ble_eq_true rfl) (nar_b _) ?_
  intro p e s m below meth c Q A C hret H locs hI ls hl
  have C : Cx p s m _ c cX4_hasStretch 3 wsX4_hasStretch RX4 g A := C
  obtain ⟨hx, hb, hml, hown, hts⟩ := id C.1
  have hl : lv_has ls 3 [(0, .ref (ad (34 + x0))), (1, .int x1), (2, .int x2)] := hl
  have hinRX4 : ∀ w ∈ u_ws RX4 TX4 3, w ∈ wsX4_hasStretch := by decide +kernel
  have lk19 := hts (.fieldLink RX4 19 "GraveRows$Sheet" "length" "I") (by decide +kernel)
  generalize hgen : f_X4_hasStretch st x0 x1 x2 = r at hret
  have h := hgen
  rw [f_X4_hasStretch] at h
  refine lv_iload_n hx hb dX4_hasStretch_0 rfl (lv_at hl 1 rfl) ?_
  refine lv_if_lt (tgt := 30) hx hb dX4_hasStretch_1 (by decide) (fun c_1 => ?_) (fun c_1 => ?_)
  · replace h := (if_pos c_1).symm.trans h
    refine lv_iconst (v := 0) hx hb dX4_hasStretch_30 (by decide) ?_
    subst h
    exact hret H locs _ ls hI dX4_hasStretch_31
  · replace h := (if_neg c_1).symm.trans h
    refine lv_iload_n hx hb dX4_hasStretch_4 rfl (lv_at hl 2 rfl) ?_
    refine lv_if_lt (tgt := 30) hx hb dX4_hasStretch_5 (by decide) (fun c_2 => ?_) (fun c_2 => ?_)
    · replace h := (if_pos c_2).symm.trans h
      refine lv_iconst (v := 0) hx hb dX4_hasStretch_30 (by decide) ?_
      subst h
      exact hret H locs _ ls hI dX4_hasStretch_31
    · replace h := (if_neg c_2).symm.trans h
      refine lv_iload_n hx hb dX4_hasStretch_8 rfl (lv_at hl 2 rfl) ?_
      refine lv_aload_n hx hb dX4_hasStretch_9 rfl (lv_at hl 0 rfl) ?_
      refine w_get (v := .int (st 37 x0)) C hinRX4 hI (34 + x0) (at_S hx0) rfl 2 (by decide) lk19 rfl rfl dX4_hasStretch_10 ?_
      refine lv_icmp_gt (tgt := 30) hx hb dX4_hasStretch_13 (by decide) (fun c_3 => ?_) (fun c_3 => ?_)
      · replace h := (if_pos c_3).symm.trans h
        refine lv_iconst (v := 0) hx hb dX4_hasStretch_30 (by decide) ?_
        subst h
        exact hret H locs _ ls hI dX4_hasStretch_31
      · replace h := (if_neg c_3).symm.trans h
        refine lv_iload_n hx hb dX4_hasStretch_16 rfl (lv_at hl 1 rfl) ?_
        refine lv_aload_n hx hb dX4_hasStretch_17 rfl (lv_at hl 0 rfl) ?_
        refine w_get (v := .int (st 37 x0)) C hinRX4 hI (34 + x0) (at_S hx0) rfl 2 (by decide) lk19 rfl rfl dX4_hasStretch_18 ?_
        refine lv_iload_n hx hb dX4_hasStretch_21 rfl (lv_at hl 2 rfl) ?_
        refine lv_isub hx hb dX4_hasStretch_22 ?_
        refine lv_icmp_gt (tgt := 30) hx hb dX4_hasStretch_23 (by decide) (fun c_4 => ?_) (fun c_4 => ?_)
        · replace h := (if_pos c_4).symm.trans h
          refine lv_iconst (v := 0) hx hb dX4_hasStretch_30 (by decide) ?_
          subst h
          exact hret H locs _ ls hI dX4_hasStretch_31
        · replace h := (if_neg c_4).symm.trans h
          refine lv_iconst (v := 1) hx hb dX4_hasStretch_26 (by decide) ?_
          refine lv_goto (tgt := 31) hx hb dX4_hasStretch_27 (by decide) ?_
          subst h
          exact hret H locs _ ls hI dX4_hasStretch_31
theorem hv_X4_hasStretch : yX4_hasStretch.cls = RX4 ∧ yX4_hasStretch.cls ≠ "java/lang/invoke/MethodHandle" ∧ yX4_hasStretch.cls ≠ "java/lang/invoke/VarHandle" ∧ (parseMethodDescriptor yX4_hasStretch.desc).map (fun d => d.parameters.length) = some 2 := by decide +kernel
/-! X4_goodsReadInto -/
def rmX4_goodsReadInto : Room := { frames := 0, cells := 0, slots := 0, locals := 0 }
def f_X4_goodsReadInto_L4 (N : Nat) (y0 : Nat) (st : St) (k : Int32 → Int32 → Option (Int32)) : Nat → Int32 → Int32 → Option (Int32)
  | 0, _, _ => none
  | n + 1, x2, x3 => if st 37 y0 ≤ x3 then k x2 x3 else ck 12 x3 fun j_2 => if st (32 + y0) j_2 = 0 then bnd (x2 &&& (((1 : Int32) <<< (x3 &&& 31)) ^^^ (-1 : Int32))) fun v_4 => f_X4_goodsReadInto_L4 N y0 st k n v_4 (x3 + 1) else bnd (x2 ||| ((1 : Int32) <<< (x3 &&& 31))) fun v_5 => f_X4_goodsReadInto_L4 N y0 st k n v_5 (x3 + 1)
def f_X4_goodsReadInto (N : Nat) (st : St) (x0 : Nat) (x1 : Int32) : Option (Int32) := f_X4_goodsReadInto_L4 N x0 st (fun a_6 a_7 => some a_6) N x1 0
set_option maxHeartbeats 4000000 in
set_option maxRecDepth 100000 in
theorem wl_X4_goodsReadInto_L4 {p : Program} {l : Launch} {e : Env} {s : State} {m : MethodId} {args : Array Value} {below : List Frame} {meth : Method} {c : Code} {Q : State → Prop} {A : Nat → Prop} {g : GP} {Y : va_W} {ad : Nat → Nat} {r : Int32}  (C : Cx p s m args c cX4_goodsReadInto 4 wsX4_goodsReadInto RX4 g A) (st : St) (hret : RetI p l e rmX4_goodsReadInto s m args below meth c Q cX4_goodsReadInto g A (wCX g Y ad st) (r)) (N : Nat) (y0 : Nat) (hy0 : y0 < 4) (k : Int32 → Int32 → Option (Int32)) (hk : ∀ (x2 : Int32) (x3 : Int32) (H : Heap) (locs : List Loc) (ls : Array Slot), k x2 x3 = some r → IW g A s.heap (wCX g Y ad st) H locs → lv_has ls 4 [(0, .ref (ad (34 + y0))), (2, .int x2), (3, .int x3)] → W p l e rmX4_goodsReadInto s m args below meth c H locs 0 0 Q (F0 m 43 ls [])) : ∀ (n : Nat) (x2 : Int32) (x3 : Int32) (H : Heap) (locs : List Loc) (ls : Array Slot), f_X4_goodsReadInto_L4 N y0 st k n x2 x3 = some r → IW g A s.heap (wCX g Y ad st) H locs → lv_has ls 4 [(0, .ref (ad (34 + y0))), (2, .int x2), (3, .int x3)] → W p l e rmX4_goodsReadInto s m args below meth c H locs 0 0 Q (F0 m 4 ls []) := by
  obtain ⟨hx, hb, hml, hown, hts⟩ := id C.1
  have hinRX4 : ∀ w ∈ u_ws RX4 TX4 3, w ∈ wsX4_goodsReadInto := by decide +kernel
  have lk19 := hts (.fieldLink RX4 19 "GraveRows$Sheet" "length" "I") (by decide +kernel)
  have lk9 := hts (.fieldLink RX4 9 "GraveRows$Sheet" "numbers" "[I") (by decide +kernel)
  intro n
  induction n with
  | zero =>
    intro x2 x3 H locs ls h hI hl
    rw [f_X4_goodsReadInto_L4] at h
    cases h
  | succ n ih =>
    intro x2 x3 H locs ls h hI hl
    rw [f_X4_goodsReadInto_L4] at h
    refine lv_iload_n hx hb dX4_goodsReadInto_4 rfl (lv_at hl 2 rfl) ?_
    refine lv_aload_n hx hb dX4_goodsReadInto_5 rfl (lv_at hl 0 rfl) ?_
    refine w_get (v := .int (st 37 y0)) C hinRX4 hI (34 + y0) (at_S hy0) rfl 2 (by decide) lk19 rfl rfl dX4_goodsReadInto_6 ?_
    refine lv_icmp_ge (tgt := 43) hx hb dX4_goodsReadInto_9 (by decide) (fun c_1 => ?_) (fun c_1 => ?_)
    · replace h := (if_pos c_1).symm.trans h
      exact hk _ _ _ _ _ h hI (lv_sub hl [0, 1, 2] rfl)
    · replace h := (if_neg c_1).symm.trans h
      refine lv_aload_n hx hb dX4_goodsReadInto_12 rfl (lv_at hl 0 rfl) ?_
      refine w_get (v := .ref (ad (38 + y0))) C hinRX4 hI (34 + y0) (at_S hy0) rfl 0 (by decide) lk9 rfl rfl dX4_goodsReadInto_13 ?_
      refine lv_iload_n hx hb dX4_goodsReadInto_16 rfl (lv_at hl 2 rfl) ?_
      refine w_ld C hI (38 + y0) (ar_S hy0) h dX4_goodsReadInto_17 (fun j_2 hj_2 h => ?_)
      refine lv_if_eq (tgt := 29) hx hb dX4_goodsReadInto_18 (by decide) (fun c_3 => ?_) (fun c_3 => ?_)
      · replace h := (if_pos c_3).symm.trans h
        refine lv_iload_n hx hb dX4_goodsReadInto_29 rfl (lv_at hl 1 rfl) ?_
        refine lv_iconst (v := 1) hx hb dX4_goodsReadInto_30 (by decide) ?_
        refine lv_iload_n hx hb dX4_goodsReadInto_31 rfl (lv_at hl 2 rfl) ?_
        refine lv_ishl hx hb dX4_goodsReadInto_32 ?_
        refine lv_iconst (v := (-1)) hx hb dX4_goodsReadInto_33 (by decide) ?_
        refine lv_ixor hx hb dX4_goodsReadInto_34 ?_
        refine lv_iand hx hb dX4_goodsReadInto_35 ?_
        refine gen_i h (fun v_4 h => ?_)
        refine lv_istore_n (lv' := [(2, .int v_4), (0, .ref (ad (34 + y0))), (3, .int x3)]) hx hb dX4_goodsReadInto_36 rfl hl (by decide) rfl (fun ls hl => ?_)
        refine lv_iinc (v := x3 + 1) (lv' := [(3, .int (x3 + 1)), (2, .int v_4), (0, .ref (ad (34 + y0)))]) hx hb dX4_goodsReadInto_37 hl (k := 2) rfl rfl (by decide) rfl (fun ls hl => ?_)
        refine lv_goto (tgt := 4) hx hb dX4_goodsReadInto_40 (by decide) ?_
        exact ih _ _ _ _ _ h hI (lv_sub hl [2, 1, 0] rfl)
      · replace h := (if_neg c_3).symm.trans h
        refine lv_iload_n hx hb dX4_goodsReadInto_21 rfl (lv_at hl 1 rfl) ?_
        refine lv_iconst (v := 1) hx hb dX4_goodsReadInto_22 (by decide) ?_
        refine lv_iload_n hx hb dX4_goodsReadInto_23 rfl (lv_at hl 2 rfl) ?_
        refine lv_ishl hx hb dX4_goodsReadInto_24 ?_
        refine lv_ior hx hb dX4_goodsReadInto_25 ?_
        refine lv_goto (tgt := 36) hx hb dX4_goodsReadInto_26 (by decide) ?_
        refine gen_i h (fun v_5 h => ?_)
        refine lv_istore_n (lv' := [(2, .int v_5), (0, .ref (ad (34 + y0))), (3, .int x3)]) hx hb dX4_goodsReadInto_36 rfl hl (by decide) rfl (fun ls hl => ?_)
        refine lv_iinc (v := x3 + 1) (lv' := [(3, .int (x3 + 1)), (2, .int v_5), (0, .ref (ad (34 + y0)))]) hx hb dX4_goodsReadInto_37 hl (k := 2) rfl rfl (by decide) rfl (fun ls hl => ?_)
        refine lv_goto (tgt := 4) hx hb dX4_goodsReadInto_40 (by decide) ?_
        exact ih _ _ _ _ _ h hI (lv_sub hl [2, 1, 0] rfl)
set_option maxHeartbeats 4000000 in
set_option maxRecDepth 100000 in
theorem c_X4_goodsReadInto (l : Launch) (g : GP) (Y : va_W) (ad : Nat → Nat) (N : Nat) (x0 : Nat) (x1 : Int32) (hx0 : x0 < 4) (st : St) {r : Int32}  (h : f_X4_goodsReadInto N st x0 x1 = some r) : MetI l yX4_goodsReadInto wsX4_goodsReadInto rmX4_goodsReadInto g (wCX g Y ad) [.ref (ad (34 + x0)), .int x1] st (r) st := by
  refine metI_of (cc := cX4_goodsReadInto) (nL := 4) (ty := .int) (by decide) rfl (Nat.le_of_ble_eq_true rfl) rfl ?_
  intro p e s m below meth c Q A C hret H locs hI ls hl
  have C : Cx p s m _ c cX4_goodsReadInto 4 wsX4_goodsReadInto RX4 g A := C
  obtain ⟨hx, hb, hml, hown, hts⟩ := id C.1
  have hl : lv_has ls 4 [(0, .ref (ad (34 + x0))), (1, .int x1)] := hl
  rw [f_X4_goodsReadInto] at h
  refine lv_iload_n hx hb dX4_goodsReadInto_0 rfl (lv_at hl 1 rfl) ?_
  refine lv_istore_n (lv' := [(2, .int x1), (0, .ref (ad (34 + x0))), (1, .int x1)]) hx hb dX4_goodsReadInto_1 rfl hl (by decide) rfl (fun ls hl => ?_)
  refine lv_iconst (v := 0) hx hb dX4_goodsReadInto_2 (by decide) ?_
  refine lv_istore_n (lv' := [(3, .int 0), (2, .int x1), (0, .ref (ad (34 + x0))), (1, .int x1)]) hx hb dX4_goodsReadInto_3 rfl hl (by decide) rfl (fun ls hl => ?_)
  refine wl_X4_goodsReadInto_L4 C st hret N x0 hx0 _ (fun a_6 a_7 H locs ls h hI hl => ?_) N x1 0 H locs ls h hI (lv_sub hl [2, 1, 0] rfl)
  refine lv_iload_n hx hb dX4_goodsReadInto_43 rfl (lv_at hl 1 rfl) ?_
  obtain rfl := ret1 h
  exact hret H locs _ ls hI dX4_goodsReadInto_44
theorem hv_X4_goodsReadInto : yX4_goodsReadInto.cls = RX4 ∧ yX4_goodsReadInto.cls ≠ "java/lang/invoke/MethodHandle" ∧ yX4_goodsReadInto.cls ≠ "java/lang/invoke/VarHandle" ∧ (parseMethodDescriptor yX4_goodsReadInto.desc).map (fun d => d.parameters.length) = some 1 := by decide +kernel
/-! X5_isKind -/
def rmX5_isKind : Room := { frames := 0, cells := 0, slots := 0, locals := 0 }
def f_X5_isKind (x0 : Int32) : Bool := if x0 < 0 then false else if 4 ≤ x0 then false else true
set_option maxHeartbeats 4000000 in
set_option maxRecDepth 100000 in
theorem c_X5_isKind (l : Launch) (x0 : Int32) : MetS l yX5_isKind wsX5_isKind rmX5_isKind [.int x0] (b2i (f_X5_isKind x0)) := by
  refine metS_of (cc := cX5_isKind) (nL := 1) (ty := .boolean) (by decide) rfl (Nat.le_of_ble_eq_true rfl) (nar_b _) ?_
  intro p e s m below meth c Q C hret ls hl
  have C : CallFix p m c cX5_isKind 1 s _ wsX5_isKind RX5 := C
  obtain ⟨hx, hb, hml, hown, hts⟩ := id C
  have hl : lv_has ls 1 [(0, .int x0)] := hl
  generalize hgen : f_X5_isKind x0 = r at hret
  have h := hgen
  rw [f_X5_isKind] at h
  refine lv_iload_n hx hb dX5_isKind_0 rfl (lv_at hl 0 rfl) ?_
  refine lv_if_lt (tgt := 13) hx hb dX5_isKind_1 (by decide) (fun c_1 => ?_) (fun c_1 => ?_)
  · replace h := (if_pos c_1).symm.trans h
    refine lv_iconst (v := 0) hx hb dX5_isKind_13 (by decide) ?_
    subst h
    exact hret _ ls dX5_isKind_14
  · replace h := (if_neg c_1).symm.trans h
    refine lv_iload_n hx hb dX5_isKind_4 rfl (lv_at hl 0 rfl) ?_
    refine lv_iconst (v := 4) hx hb dX5_isKind_5 (by decide) ?_
    refine lv_icmp_ge (tgt := 13) hx hb dX5_isKind_6 (by decide) (fun c_2 => ?_) (fun c_2 => ?_)
    · replace h := (if_pos c_2).symm.trans h
      refine lv_iconst (v := 0) hx hb dX5_isKind_13 (by decide) ?_
      subst h
      exact hret _ ls dX5_isKind_14
    · replace h := (if_neg c_2).symm.trans h
      refine lv_iconst (v := 1) hx hb dX5_isKind_9 (by decide) ?_
      refine lv_goto (tgt := 14) hx hb dX5_isKind_10 (by decide) ?_
      subst h
      exact hret _ ls dX5_isKind_14
theorem hd_X5_isKind : yX5_isKind.cls ≠ "java/lang/invoke/MethodHandle" ∧ yX5_isKind.cls ≠ "java/lang/invoke/VarHandle" ∧ (parseMethodDescriptor yX5_isKind.desc).map (fun d => d.parameters.length) = some 1 := by decide +kernel
/-! X5_isDistance -/
def rmX5_isDistance : Room := { frames := 0, cells := 0, slots := 0, locals := 0 }
def f_X5_isDistance (x0 : Int32) : Bool := if x0 < 0 then false else if 99 < x0 then false else true
set_option maxHeartbeats 4000000 in
set_option maxRecDepth 100000 in
theorem c_X5_isDistance (l : Launch) (x0 : Int32) : MetS l yX5_isDistance wsX5_isDistance rmX5_isDistance [.int x0] (b2i (f_X5_isDistance x0)) := by
  refine metS_of (cc := cX5_isDistance) (nL := 1) (ty := .boolean) (by decide) rfl (Nat.le_of_ble_eq_true rfl) (nar_b _) ?_
  intro p e s m below meth c Q C hret ls hl
  have C : CallFix p m c cX5_isDistance 1 s _ wsX5_isDistance RX5 := C
  obtain ⟨hx, hb, hml, hown, hts⟩ := id C
  have hl : lv_has ls 1 [(0, .int x0)] := hl
  generalize hgen : f_X5_isDistance x0 = r at hret
  have h := hgen
  rw [f_X5_isDistance] at h
  refine lv_iload_n hx hb dX5_isDistance_0 rfl (lv_at hl 0 rfl) ?_
  refine lv_if_lt (tgt := 14) hx hb dX5_isDistance_1 (by decide) (fun c_1 => ?_) (fun c_1 => ?_)
  · replace h := (if_pos c_1).symm.trans h
    refine lv_iconst (v := 0) hx hb dX5_isDistance_14 (by decide) ?_
    subst h
    exact hret _ ls dX5_isDistance_15
  · replace h := (if_neg c_1).symm.trans h
    refine lv_iload_n hx hb dX5_isDistance_4 rfl (lv_at hl 0 rfl) ?_
    refine lv_bipush (v := 99) hx hb dX5_isDistance_5 (by decide) ?_
    refine lv_icmp_gt (tgt := 14) hx hb dX5_isDistance_7 (by decide) (fun c_2 => ?_) (fun c_2 => ?_)
    · replace h := (if_pos c_2).symm.trans h
      refine lv_iconst (v := 0) hx hb dX5_isDistance_14 (by decide) ?_
      subst h
      exact hret _ ls dX5_isDistance_15
    · replace h := (if_neg c_2).symm.trans h
      refine lv_iconst (v := 1) hx hb dX5_isDistance_10 (by decide) ?_
      refine lv_goto (tgt := 15) hx hb dX5_isDistance_11 (by decide) ?_
      subst h
      exact hret _ ls dX5_isDistance_15
theorem hd_X5_isDistance : yX5_isDistance.cls ≠ "java/lang/invoke/MethodHandle" ∧ yX5_isDistance.cls ≠ "java/lang/invoke/VarHandle" ∧ (parseMethodDescriptor yX5_isDistance.desc).map (fun d => d.parameters.length) = some 1 := by decide +kernel
/-! X5_isYear -/
def rmX5_isYear : Room := { frames := 0, cells := 0, slots := 0, locals := 0 }
def f_X5_isYear (x0 : Int32) : Bool := if x0 < -5000 then false else if 5000 < x0 then false else true
set_option maxHeartbeats 4000000 in
set_option maxRecDepth 100000 in
theorem c_X5_isYear (l : Launch) (x0 : Int32) : MetS l yX5_isYear wsX5_isYear rmX5_isYear [.int x0] (b2i (f_X5_isYear x0)) := by
  refine metS_of (cc := cX5_isYear) (nL := 1) (ty := .boolean) (by decide) rfl (Nat.le_of_ble_eq_true rfl) (nar_b _) ?_
  intro p e s m below meth c Q C hret ls hl
  have C : CallFix p m c cX5_isYear 1 s _ wsX5_isYear RX5 := C
  obtain ⟨hx, hb, hml, hown, hts⟩ := id C
  have hl : lv_has ls 1 [(0, .int x0)] := hl
  generalize hgen : f_X5_isYear x0 = r at hret
  have h := hgen
  rw [f_X5_isYear] at h
  refine lv_iload_n hx hb dX5_isYear_0 rfl (lv_at hl 0 rfl) ?_
  refine lv_sipush (v := (-5000)) hx hb dX5_isYear_1 (by decide) ?_
  refine lv_icmp_lt (tgt := 18) hx hb dX5_isYear_4 (by decide) (fun c_1 => ?_) (fun c_1 => ?_)
  · replace h := (if_pos c_1).symm.trans h
    refine lv_iconst (v := 0) hx hb dX5_isYear_18 (by decide) ?_
    subst h
    exact hret _ ls dX5_isYear_19
  · replace h := (if_neg c_1).symm.trans h
    refine lv_iload_n hx hb dX5_isYear_7 rfl (lv_at hl 0 rfl) ?_
    refine lv_sipush (v := 5000) hx hb dX5_isYear_8 (by decide) ?_
    refine lv_icmp_gt (tgt := 18) hx hb dX5_isYear_11 (by decide) (fun c_2 => ?_) (fun c_2 => ?_)
    · replace h := (if_pos c_2).symm.trans h
      refine lv_iconst (v := 0) hx hb dX5_isYear_18 (by decide) ?_
      subst h
      exact hret _ ls dX5_isYear_19
    · replace h := (if_neg c_2).symm.trans h
      refine lv_iconst (v := 1) hx hb dX5_isYear_14 (by decide) ?_
      refine lv_goto (tgt := 19) hx hb dX5_isYear_15 (by decide) ?_
      subst h
      exact hret _ ls dX5_isYear_19
theorem hd_X5_isYear : yX5_isYear.cls ≠ "java/lang/invoke/MethodHandle" ∧ yX5_isYear.cls ≠ "java/lang/invoke/VarHandle" ∧ (parseMethodDescriptor yX5_isYear.desc).map (fun d => d.parameters.length) = some 1 := by decide +kernel
/-! X5_isGood -/
def rmX5_isGood : Room := { frames := 0, cells := 0, slots := 0, locals := 0 }
def f_X5_isGood (x0 : Int32) : Bool := if x0 < 0 then false else if 12 ≤ x0 then false else true
set_option maxHeartbeats 4000000 in
set_option maxRecDepth 100000 in
theorem c_X5_isGood (l : Launch) (x0 : Int32) : MetS l yX5_isGood wsX5_isGood rmX5_isGood [.int x0] (b2i (f_X5_isGood x0)) := by
  refine metS_of (cc := cX5_isGood) (nL := 1) (ty := .boolean) (by decide) rfl (Nat.le_of_ble_eq_true rfl) (nar_b _) ?_
  intro p e s m below meth c Q C hret ls hl
  have C : CallFix p m c cX5_isGood 1 s _ wsX5_isGood RX5 := C
  obtain ⟨hx, hb, hml, hown, hts⟩ := id C
  have hl : lv_has ls 1 [(0, .int x0)] := hl
  generalize hgen : f_X5_isGood x0 = r at hret
  have h := hgen
  rw [f_X5_isGood] at h
  refine lv_iload_n hx hb dX5_isGood_0 rfl (lv_at hl 0 rfl) ?_
  refine lv_if_lt (tgt := 14) hx hb dX5_isGood_1 (by decide) (fun c_1 => ?_) (fun c_1 => ?_)
  · replace h := (if_pos c_1).symm.trans h
    refine lv_iconst (v := 0) hx hb dX5_isGood_14 (by decide) ?_
    subst h
    exact hret _ ls dX5_isGood_15
  · replace h := (if_neg c_1).symm.trans h
    refine lv_iload_n hx hb dX5_isGood_4 rfl (lv_at hl 0 rfl) ?_
    refine lv_bipush (v := 12) hx hb dX5_isGood_5 (by decide) ?_
    refine lv_icmp_ge (tgt := 14) hx hb dX5_isGood_7 (by decide) (fun c_2 => ?_) (fun c_2 => ?_)
    · replace h := (if_pos c_2).symm.trans h
      refine lv_iconst (v := 0) hx hb dX5_isGood_14 (by decide) ?_
      subst h
      exact hret _ ls dX5_isGood_15
    · replace h := (if_neg c_2).symm.trans h
      refine lv_iconst (v := 1) hx hb dX5_isGood_10 (by decide) ?_
      refine lv_goto (tgt := 15) hx hb dX5_isGood_11 (by decide) ?_
      subst h
      exact hret _ ls dX5_isGood_15
theorem hd_X5_isGood : yX5_isGood.cls ≠ "java/lang/invoke/MethodHandle" ∧ yX5_isGood.cls ≠ "java/lang/invoke/VarHandle" ∧ (parseMethodDescriptor yX5_isGood.desc).map (fun d => d.parameters.length) = some 1 := by decide +kernel
/-! X5_isMark -/
def rmX5_isMark : Room := { frames := 0, cells := 0, slots := 0, locals := 0 }
def f_X5_isMark (x0 : Int32) : Bool := if x0 < 0 then false else if 6 ≤ x0 then false else true
set_option maxHeartbeats 4000000 in
set_option maxRecDepth 100000 in
theorem c_X5_isMark (l : Launch) (x0 : Int32) : MetS l yX5_isMark wsX5_isMark rmX5_isMark [.int x0] (b2i (f_X5_isMark x0)) := by
  refine metS_of (cc := cX5_isMark) (nL := 1) (ty := .boolean) (by decide) rfl (Nat.le_of_ble_eq_true rfl) (nar_b _) ?_
  intro p e s m below meth c Q C hret ls hl
  have C : CallFix p m c cX5_isMark 1 s _ wsX5_isMark RX5 := C
  obtain ⟨hx, hb, hml, hown, hts⟩ := id C
  have hl : lv_has ls 1 [(0, .int x0)] := hl
  generalize hgen : f_X5_isMark x0 = r at hret
  have h := hgen
  rw [f_X5_isMark] at h
  refine lv_iload_n hx hb dX5_isMark_0 rfl (lv_at hl 0 rfl) ?_
  refine lv_if_lt (tgt := 14) hx hb dX5_isMark_1 (by decide) (fun c_1 => ?_) (fun c_1 => ?_)
  · replace h := (if_pos c_1).symm.trans h
    refine lv_iconst (v := 0) hx hb dX5_isMark_14 (by decide) ?_
    subst h
    exact hret _ ls dX5_isMark_15
  · replace h := (if_neg c_1).symm.trans h
    refine lv_iload_n hx hb dX5_isMark_4 rfl (lv_at hl 0 rfl) ?_
    refine lv_bipush (v := 6) hx hb dX5_isMark_5 (by decide) ?_
    refine lv_icmp_ge (tgt := 14) hx hb dX5_isMark_7 (by decide) (fun c_2 => ?_) (fun c_2 => ?_)
    · replace h := (if_pos c_2).symm.trans h
      refine lv_iconst (v := 0) hx hb dX5_isMark_14 (by decide) ?_
      subst h
      exact hret _ ls dX5_isMark_15
    · replace h := (if_neg c_2).symm.trans h
      refine lv_iconst (v := 1) hx hb dX5_isMark_10 (by decide) ?_
      refine lv_goto (tgt := 15) hx hb dX5_isMark_11 (by decide) ?_
      subst h
      exact hret _ ls dX5_isMark_15
theorem hd_X5_isMark : yX5_isMark.cls ≠ "java/lang/invoke/MethodHandle" ∧ yX5_isMark.cls ≠ "java/lang/invoke/VarHandle" ∧ (parseMethodDescriptor yX5_isMark.desc).map (fun d => d.parameters.length) = some 1 := by decide +kernel
/-! X5_isSheet -/
def rmX5_isSheet : Room := { frames := 0, cells := 0, slots := 0, locals := 0 }
def f_X5_isSheet (x0 : Int32) : Bool := if x0 < 0 then false else if 4 ≤ x0 then false else true
set_option maxHeartbeats 4000000 in
set_option maxRecDepth 100000 in
theorem c_X5_isSheet (l : Launch) (x0 : Int32) : MetS l yX5_isSheet wsX5_isSheet rmX5_isSheet [.int x0] (b2i (f_X5_isSheet x0)) := by
  refine metS_of (cc := cX5_isSheet) (nL := 1) (ty := .boolean) (by decide) rfl (Nat.le_of_ble_eq_true rfl) (nar_b _) ?_
  intro p e s m below meth c Q C hret ls hl
  have C : CallFix p m c cX5_isSheet 1 s _ wsX5_isSheet RX5 := C
  obtain ⟨hx, hb, hml, hown, hts⟩ := id C
  have hl : lv_has ls 1 [(0, .int x0)] := hl
  generalize hgen : f_X5_isSheet x0 = r at hret
  have h := hgen
  rw [f_X5_isSheet] at h
  refine lv_iload_n hx hb dX5_isSheet_0 rfl (lv_at hl 0 rfl) ?_
  refine lv_if_lt (tgt := 13) hx hb dX5_isSheet_1 (by decide) (fun c_1 => ?_) (fun c_1 => ?_)
  · replace h := (if_pos c_1).symm.trans h
    refine lv_iconst (v := 0) hx hb dX5_isSheet_13 (by decide) ?_
    subst h
    exact hret _ ls dX5_isSheet_14
  · replace h := (if_neg c_1).symm.trans h
    refine lv_iload_n hx hb dX5_isSheet_4 rfl (lv_at hl 0 rfl) ?_
    refine lv_iconst (v := 4) hx hb dX5_isSheet_5 (by decide) ?_
    refine lv_icmp_ge (tgt := 13) hx hb dX5_isSheet_6 (by decide) (fun c_2 => ?_) (fun c_2 => ?_)
    · replace h := (if_pos c_2).symm.trans h
      refine lv_iconst (v := 0) hx hb dX5_isSheet_13 (by decide) ?_
      subst h
      exact hret _ ls dX5_isSheet_14
    · replace h := (if_neg c_2).symm.trans h
      refine lv_iconst (v := 1) hx hb dX5_isSheet_9 (by decide) ?_
      refine lv_goto (tgt := 14) hx hb dX5_isSheet_10 (by decide) ?_
      subst h
      exact hret _ ls dX5_isSheet_14
theorem hd_X5_isSheet : yX5_isSheet.cls ≠ "java/lang/invoke/MethodHandle" ∧ yX5_isSheet.cls ≠ "java/lang/invoke/VarHandle" ∧ (parseMethodDescriptor yX5_isSheet.desc).map (fun d => d.parameters.length) = some 1 := by decide +kernel
/-! X5_isWidth -/
def rmX5_isWidth : Room := { frames := 0, cells := 0, slots := 0, locals := 0 }
def f_X5_isWidth (x0 : Int32) : Bool := if x0 = 0 then true else if x0 = 8 then true else if x0 = 16 then true else if x0 = 32 then true else false
set_option maxHeartbeats 4000000 in
set_option maxRecDepth 100000 in
theorem c_X5_isWidth (l : Launch) (x0 : Int32) : MetS l yX5_isWidth wsX5_isWidth rmX5_isWidth [.int x0] (b2i (f_X5_isWidth x0)) := by
  refine metS_of (cc := cX5_isWidth) (nL := 1) (ty := .boolean) (by decide) rfl (Nat.le_of_ble_eq_true rfl) (nar_b _) ?_
  intro p e s m below meth c Q C hret ls hl
  have C : CallFix p m c cX5_isWidth 1 s _ wsX5_isWidth RX5 := C
  obtain ⟨hx, hb, hml, hown, hts⟩ := id C
  have hl : lv_has ls 1 [(0, .int x0)] := hl
  generalize hgen : f_X5_isWidth x0 = r at hret
  have h := hgen
  rw [f_X5_isWidth] at h
  refine lv_iload_n hx hb dX5_isWidth_0 rfl (lv_at hl 0 rfl) ?_
  refine lv_if_eq (tgt := 22) hx hb dX5_isWidth_1 (by decide) (fun c_1 => ?_) (fun c_1 => ?_)
  · replace h := (if_pos c_1).symm.trans h
    refine lv_iconst (v := 1) hx hb dX5_isWidth_22 (by decide) ?_
    refine lv_goto (tgt := 27) hx hb dX5_isWidth_23 (by decide) ?_
    subst h
    exact hret _ ls dX5_isWidth_27
  · replace h := (if_neg c_1).symm.trans h
    refine lv_iload_n hx hb dX5_isWidth_4 rfl (lv_at hl 0 rfl) ?_
    refine lv_bipush (v := 8) hx hb dX5_isWidth_5 (by decide) ?_
    refine lv_icmp_eq (tgt := 22) hx hb dX5_isWidth_7 (by decide) (fun c_2 => ?_) (fun c_2 => ?_)
    · replace h := (if_pos c_2).symm.trans h
      refine lv_iconst (v := 1) hx hb dX5_isWidth_22 (by decide) ?_
      refine lv_goto (tgt := 27) hx hb dX5_isWidth_23 (by decide) ?_
      subst h
      exact hret _ ls dX5_isWidth_27
    · replace h := (if_neg c_2).symm.trans h
      refine lv_iload_n hx hb dX5_isWidth_10 rfl (lv_at hl 0 rfl) ?_
      refine lv_bipush (v := 16) hx hb dX5_isWidth_11 (by decide) ?_
      refine lv_icmp_eq (tgt := 22) hx hb dX5_isWidth_13 (by decide) (fun c_3 => ?_) (fun c_3 => ?_)
      · replace h := (if_pos c_3).symm.trans h
        refine lv_iconst (v := 1) hx hb dX5_isWidth_22 (by decide) ?_
        refine lv_goto (tgt := 27) hx hb dX5_isWidth_23 (by decide) ?_
        subst h
        exact hret _ ls dX5_isWidth_27
      · replace h := (if_neg c_3).symm.trans h
        refine lv_iload_n hx hb dX5_isWidth_16 rfl (lv_at hl 0 rfl) ?_
        refine lv_bipush (v := 32) hx hb dX5_isWidth_17 (by decide) ?_
        refine lv_icmp_ne (tgt := 26) hx hb dX5_isWidth_19 (by decide) (fun c_4 => ?_) (fun c_4 => ?_)
        · replace h := (if_neg c_4).symm.trans h
          refine lv_iconst (v := 0) hx hb dX5_isWidth_26 (by decide) ?_
          subst h
          exact hret _ ls dX5_isWidth_27
        · replace h := (if_pos c_4).symm.trans h
          refine lv_iconst (v := 1) hx hb dX5_isWidth_22 (by decide) ?_
          refine lv_goto (tgt := 27) hx hb dX5_isWidth_23 (by decide) ?_
          subst h
          exact hret _ ls dX5_isWidth_27
theorem hd_X5_isWidth : yX5_isWidth.cls ≠ "java/lang/invoke/MethodHandle" ∧ yX5_isWidth.cls ≠ "java/lang/invoke/VarHandle" ∧ (parseMethodDescriptor yX5_isWidth.desc).map (fun d => d.parameters.length) = some 1 := by decide +kernel
/-! X5_isIn -/
def rmX5_isIn : Room := { frames := 0, cells := 0, slots := 0, locals := 0 }
def f_X5_isIn (x0 : Int32) (x1 : Int32) : Bool := if (x0 >>> (x1 &&& 31)) &&& (1 : Int32) = 0 then false else true
set_option maxHeartbeats 4000000 in
set_option maxRecDepth 100000 in
theorem c_X5_isIn (l : Launch) (x0 : Int32) (x1 : Int32) : MetS l yX5_isIn wsX5_isIn rmX5_isIn [.int x0, .int x1] (b2i (f_X5_isIn x0 x1)) := by
  refine metS_of (cc := cX5_isIn) (nL := 2) (ty := .boolean) (by decide) rfl (Nat.le_of_ble_eq_true rfl) (nar_b _) ?_
  intro p e s m below meth c Q C hret ls hl
  have C : CallFix p m c cX5_isIn 2 s _ wsX5_isIn RX5 := C
  obtain ⟨hx, hb, hml, hown, hts⟩ := id C
  have hl : lv_has ls 2 [(0, .int x0), (1, .int x1)] := hl
  generalize hgen : f_X5_isIn x0 x1 = r at hret
  have h := hgen
  rw [f_X5_isIn] at h
  refine lv_iload_n hx hb dX5_isIn_0 rfl (lv_at hl 0 rfl) ?_
  refine lv_iload_n hx hb dX5_isIn_1 rfl (lv_at hl 1 rfl) ?_
  refine lv_ishr hx hb dX5_isIn_2 ?_
  refine lv_iconst (v := 1) hx hb dX5_isIn_3 (by decide) ?_
  refine lv_iand hx hb dX5_isIn_4 ?_
  refine lv_if_eq (tgt := 12) hx hb dX5_isIn_5 (by decide) (fun c_1 => ?_) (fun c_1 => ?_)
  · replace h := (if_pos c_1).symm.trans h
    refine lv_iconst (v := 0) hx hb dX5_isIn_12 (by decide) ?_
    subst h
    exact hret _ ls dX5_isIn_13
  · replace h := (if_neg c_1).symm.trans h
    refine lv_iconst (v := 1) hx hb dX5_isIn_8 (by decide) ?_
    refine lv_goto (tgt := 13) hx hb dX5_isIn_9 (by decide) ?_
    subst h
    exact hret _ ls dX5_isIn_13
theorem hd_X5_isIn : yX5_isIn.cls ≠ "java/lang/invoke/MethodHandle" ∧ yX5_isIn.cls ≠ "java/lang/invoke/VarHandle" ∧ (parseMethodDescriptor yX5_isIn.desc).map (fun d => d.parameters.length) = some 2 := by decide +kernel
