/-! X2_becomev10 -/
def rmX2_becomev10 : Room := { frames := 1, cells := 0, slots := 0, locals := 60 }
def f_X2_becomev10_L2 (N : Nat) (k : Int32 → St → Option (St)) : Nat → Int32 → St → Option (St)
  | 0, _, _ => none
  | n + 1, x2, st => if 10 ≤ x2 then k x2 st else ck 10 x2 fun j_2 => ck 10 x2 fun j_3 => bd1 (f_X1_becomev10 st j_2 j_3) fun st_5 => f_X2_becomev10_L2 N k n (x2 + 1) st_5
def f_X2_becomev10 (N : Nat) (st : St) : Option (St) := f_X2_becomev10_L2 N (fun a_6 st_7 => acp 6 6 st_7 9 25 0 0 6 fun st_8 => acp 6 6 st_8 10 26 0 0 6 fun st_9 => acp 12 12 st_9 11 27 0 0 12 fun st_10 => bnd (sU st_10 29 0 (st_10 13 0)) fun st_11 => bnd (sU st_11 29 1 (st_11 13 1)) fun st_12 => some st_12) N 0 st
set_option maxHeartbeats 4000000 in
set_option maxRecDepth 100000 in
theorem wl_X2_becomev10_L2 {p : Program} {l : Launch} {e : Env} {s : State} {m : MethodId} {args : Array Value} {below : List Frame} {meth : Method} {c : Code} {Q : State → Prop} {A : Nat → Prop} {g : GP} {Y : va_W} {ad : Nat → Nat} {st' : St} (C : Cx p s m args c cX2_become 3 wsX2_become RX2 g A) (hret : RetV p l e rmX2_becomev10 s m args below meth c Q cX2_become g A (wCX g Y ad st')) (N : Nat)  (k : Int32 → St → Option (St)) (hk : ∀ (x2 : Int32) (st : St) (H : Heap) (locs : List Loc) (ls : Array Slot), k x2 st = some st' → IW g A s.heap (wCX g Y ad st) H locs → lv_has ls 3 [(0, .ref (ad 17)), (1, .ref (ad 1)), (2, .int x2)] → W p l e rmX2_becomev10 s m args below meth c H locs 0 0 Q (F0 m 29 ls [])) : ∀ (n : Nat) (x2 : Int32) (st : St) (H : Heap) (locs : List Loc) (ls : Array Slot), f_X2_becomev10_L2 N k n x2 st = some st' → IW g A s.heap (wCX g Y ad st) H locs → lv_has ls 3 [(0, .ref (ad 17)), (1, .ref (ad 1)), (2, .int x2)] → W p l e rmX2_becomev10 s m args below meth c H locs 0 0 Q (F0 m 2 ls []) := by
  obtain ⟨hx, hb, hml, hown, hts⟩ := id C.1
  have hinRX2 : ∀ w ∈ u_ws RX2 TX2 7, w ∈ wsX2_become := by decide +kernel
  have lk11 := hts (.fieldLink RX2 11 "GraveRows$Ground" "graves" "[LGraveRows$Grave;") (by decide +kernel)
  intro n
  induction n with
  | zero =>
    intro x2 st H locs ls h hI hl
    rw [f_X2_becomev10_L2] at h
    cases h
  | succ n ih =>
    intro x2 st H locs ls h hI hl
    rw [f_X2_becomev10_L2] at h
    refine lv_iload_n hx hb dX2_become_2 rfl (lv_at hl 2 rfl) ?_
    refine lv_bipush (v := 10) hx hb dX2_become_3 (by decide) ?_
    refine lv_icmp_ge (tgt := 29) hx hb dX2_become_5 (by decide) (fun c_1 => ?_) (fun c_1 => ?_)
    · replace h := (if_pos c_1).symm.trans h
      exact hk _ _ _ _ _ h hI (lv_sub hl [0, 1, 2] rfl)
    · replace h := (if_neg c_1).symm.trans h
      refine lv_aload_n hx hb dX2_become_8 rfl (lv_at hl 0 rfl) ?_
      refine w_get (v := .ref (ad 18)) C hinRX2 hI 17 at_G1 rfl 0 (by decide) lk11 rfl rfl dX2_become_9 ?_
      refine lv_iload_n hx hb dX2_become_12 rfl (lv_at hl 2 rfl) ?_
      refine w_ald (t0 := 2) (fa := fun j => ad (23 + j)) C hI 18 ra_18 rfl (fun _ => rfl) h dX2_become_13 (fun j_2 hj_2 h => ?_)
      refine lv_aload_n hx hb dX2_become_14 rfl (lv_at hl 1 rfl) ?_
      refine w_get (v := .ref (ad 2)) C hinRX2 hI 1 at_G0 rfl 0 (by decide) lk11 rfl rfl dX2_become_15 ?_
      refine lv_iload_n hx hb dX2_become_18 rfl (lv_at hl 2 rfl) ?_
      refine w_ald (t0 := 2) (fa := fun j => ad (7 + j)) C hI 2 ra_2 rfl (fun _ => rfl) h dX2_become_19 (fun j_3 hj_3 h => ?_)
      obtain ⟨st_5, hr_4, h⟩ := bd1_some h
      refine callV_V (rest := []) C hI (c_X1_becomev10 l g Y ad j_2 j_3 hj_2 hj_3 st hr_4) (cwV 1 hts gX2_become_X1_become rfl rfl rfl hv_X1_become ⟨Nat.le_of_ble_eq_true rfl, Nat.le_of_ble_eq_true rfl⟩) (w_recv C hI (23 + j_2) (at_V1 hj_2) rfl) rfl hl.1 rfl (Nat.le_of_ble_eq_true rfl) dX2_become_20 (fun H locs hI => ?_)
      refine lv_iinc (v := x2 + 1) (lv' := [(2, .int (x2 + 1)), (0, .ref (ad 17)), (1, .ref (ad 1))]) hx hb dX2_become_23 hl (k := 2) rfl rfl (by decide) rfl (fun ls hl => ?_)
      refine lv_goto (tgt := 2) hx hb dX2_become_26 (by decide) ?_
      exact ih _ _ _ _ _ h hI (lv_sub hl [1, 2, 0] rfl)
set_option maxHeartbeats 4000000 in
set_option maxRecDepth 100000 in
theorem c_X2_becomev10 (l : Launch) (g : GP) (Y : va_W) (ad : Nat → Nat) (N : Nat)  (st : St) {st' : St} (h : f_X2_becomev10 N st = some st') : MetV l yX2_become wsX2_become rmX2_becomev10 g (wCX g Y ad) [.ref (ad 17), .ref (ad 1)] st st' := by
  refine metV_of (cc := cX2_become) (nL := 3) (by decide) rfl (Nat.le_of_ble_eq_true rfl) ?_
  intro p e s m below meth c Q A C hret H locs hI ls hl
  have C : Cx p s m _ c cX2_become 3 wsX2_become RX2 g A := C
  obtain ⟨hx, hb, hml, hown, hts⟩ := id C.1
  have hl : lv_has ls 3 [(0, .ref (ad 17)), (1, .ref (ad 1))] := hl
  have hinRX2 : ∀ w ∈ u_ws RX2 TX2 7, w ∈ wsX2_become := by decide +kernel
  have lk17 := hts (.fieldLink RX2 17 "GraveRows$Ground" "weightsOfMan" "[I") (by decide +kernel)
  have cpl35 := hts (.methodLink RX2 35 arraycopyName) (by decide +kernel)
  have cpx : (Cond.native arraycopyName).before _ _ = true ∧ (Cond.static arraycopyName).before _ _ = true ∧ (Cond.initialized "java/lang/System").before _ _ = true := ⟨hts _ (by decide +kernel), hts _ (by decide +kernel), hts _ (by decide +kernel)⟩
  have lk21 := hts (.fieldLink RX2 21 "GraveRows$Ground" "weightsOfWoman" "[I") (by decide +kernel)
  have lk24 := hts (.fieldLink RX2 24 "GraveRows$Ground" "waiting" "[I") (by decide +kernel)
  have lk41 := hts (.fieldLink RX2 41 "GraveRows$Ground" "size" "I") (by decide +kernel)
  have lk45 := hts (.fieldLink RX2 45 "GraveRows$Ground" "waits" "I") (by decide +kernel)
  rw [f_X2_becomev10] at h
  refine lv_iconst (v := 0) hx hb dX2_become_0 (by decide) ?_
  refine lv_istore_n (lv' := [(2, .int 0), (0, .ref (ad 17)), (1, .ref (ad 1))]) hx hb dX2_become_1 rfl hl (by decide) rfl (fun ls hl => ?_)
  refine wl_X2_becomev10_L2 C hret N _ (fun a_6 st_7 H locs ls h hI hl => ?_) N 0 st H locs ls h hI (lv_sub hl [1, 2, 0] rfl)
  refine lv_aload_n hx hb dX2_become_29 rfl (lv_at hl 1 rfl) ?_
  refine w_get (v := .ref (ad 3)) C hinRX2 hI 1 at_G0 rfl 1 (by decide) lk17 rfl rfl dX2_become_30 ?_
  refine lv_iconst (v := 0) hx hb dX2_become_33 (by decide) ?_
  refine lv_aload_n hx hb dX2_become_34 rfl (lv_at hl 0 rfl) ?_
  refine w_get (v := .ref (ad 19)) C hinRX2 hI 17 at_G1 rfl 1 (by decide) lk17 rfl rfl dX2_become_35 ?_
  refine lv_iconst (v := 0) hx hb dX2_become_38 (by decide) ?_
  refine lv_bipush (v := 6) hx hb dX2_become_39 (by decide) ?_
  refine w_cpy C hI hl.1 cpl35 cpx 3 19 ar_3 ar_19 sa_19 h (Nat.le_of_ble_eq_true rfl) (Nat.le_of_ble_eq_true rfl) dX2_become_41 (fun st_8 H locs h hI => ?_)
  refine lv_aload_n hx hb dX2_become_44 rfl (lv_at hl 1 rfl) ?_
  refine w_get (v := .ref (ad 4)) C hinRX2 hI 1 at_G0 rfl 2 (by decide) lk21 rfl rfl dX2_become_45 ?_
  refine lv_iconst (v := 0) hx hb dX2_become_48 (by decide) ?_
  refine lv_aload_n hx hb dX2_become_49 rfl (lv_at hl 0 rfl) ?_
  refine w_get (v := .ref (ad 20)) C hinRX2 hI 17 at_G1 rfl 2 (by decide) lk21 rfl rfl dX2_become_50 ?_
  refine lv_iconst (v := 0) hx hb dX2_become_53 (by decide) ?_
  refine lv_bipush (v := 6) hx hb dX2_become_54 (by decide) ?_
  refine w_cpy C hI hl.1 cpl35 cpx 4 20 ar_4 ar_20 sa_20 h (Nat.le_of_ble_eq_true rfl) (Nat.le_of_ble_eq_true rfl) dX2_become_56 (fun st_9 H locs h hI => ?_)
  refine lv_aload_n hx hb dX2_become_59 rfl (lv_at hl 1 rfl) ?_
  refine w_get (v := .ref (ad 5)) C hinRX2 hI 1 at_G0 rfl 3 (by decide) lk24 rfl rfl dX2_become_60 ?_
  refine lv_iconst (v := 0) hx hb dX2_become_63 (by decide) ?_
  refine lv_aload_n hx hb dX2_become_64 rfl (lv_at hl 0 rfl) ?_
  refine w_get (v := .ref (ad 21)) C hinRX2 hI 17 at_G1 rfl 3 (by decide) lk24 rfl rfl dX2_become_65 ?_
  refine lv_iconst (v := 0) hx hb dX2_become_68 (by decide) ?_
  refine lv_bipush (v := 12) hx hb dX2_become_69 (by decide) ?_
  refine w_cpy C hI hl.1 cpl35 cpx 5 21 ar_5 ar_21 sa_21 h (Nat.le_of_ble_eq_true rfl) (Nat.le_of_ble_eq_true rfl) dX2_become_71 (fun st_10 H locs h hI => ?_)
  refine lv_aload_n hx hb dX2_become_74 rfl (lv_at hl 0 rfl) ?_
  refine lv_aload_n hx hb dX2_become_75 rfl (lv_at hl 1 rfl) ?_
  refine w_get (v := .int (st_10 13 0)) C hinRX2 hI 1 at_G0 rfl 5 (by decide) lk41 rfl rfl dX2_become_76 ?_
  refine w_put C hinRX2 tyX2 tyX2_ok nmX2 hI 17 at_G1 rfl 5 h st_G1_size (by decide) (Nat.le_of_ble_eq_true rfl) lk41 ⟨rfl, rfl⟩ rfl rfl dX2_become_79 (fun st_11 H locs h hI => ?_)
  refine lv_aload_n hx hb dX2_become_82 rfl (lv_at hl 0 rfl) ?_
  refine lv_aload_n hx hb dX2_become_83 rfl (lv_at hl 1 rfl) ?_
  refine w_get (v := .int (st_11 13 1)) C hinRX2 hI 1 at_G0 rfl 6 (by decide) lk45 rfl rfl dX2_become_84 ?_
  refine w_put C hinRX2 tyX2 tyX2_ok nmX2 hI 17 at_G1 rfl 6 h st_G1_waits (by decide) (Nat.le_of_ble_eq_true rfl) lk45 ⟨rfl, rfl⟩ rfl rfl dX2_become_87 (fun st_12 H locs h hI => ?_)
  obtain rfl := ret1 h
  exact hret H locs _ ls hI dX2_become_90
theorem hv_X2_become : yX2_become.cls = RX2 ∧ yX2_become.cls ≠ "java/lang/invoke/MethodHandle" ∧ yX2_become.cls ≠ "java/lang/invoke/VarHandle" ∧ (parseMethodDescriptor yX2_become.desc).map (fun d => d.parameters.length) = some 1 := by decide +kernel
/-! X2_becomev01 -/
def rmX2_becomev01 : Room := { frames := 1, cells := 0, slots := 0, locals := 60 }
def f_X2_becomev01_L2 (N : Nat) (k : Int32 → St → Option (St)) : Nat → Int32 → St → Option (St)
  | 0, _, _ => none
  | n + 1, x2, st => if 10 ≤ x2 then k x2 st else ck 10 x2 fun j_2 => ck 10 x2 fun j_3 => bd1 (f_X1_becomev01 st j_2 j_3) fun st_5 => f_X2_becomev01_L2 N k n (x2 + 1) st_5
def f_X2_becomev01 (N : Nat) (st : St) : Option (St) := f_X2_becomev01_L2 N (fun a_6 st_7 => acp 6 6 st_7 25 9 0 0 6 fun st_8 => acp 6 6 st_8 26 10 0 0 6 fun st_9 => acp 12 12 st_9 27 11 0 0 12 fun st_10 => bnd (sU st_10 13 0 (st_10 29 0)) fun st_11 => bnd (sU st_11 13 1 (st_11 29 1)) fun st_12 => some st_12) N 0 st
set_option maxHeartbeats 4000000 in
set_option maxRecDepth 100000 in
theorem wl_X2_becomev01_L2 {p : Program} {l : Launch} {e : Env} {s : State} {m : MethodId} {args : Array Value} {below : List Frame} {meth : Method} {c : Code} {Q : State → Prop} {A : Nat → Prop} {g : GP} {Y : va_W} {ad : Nat → Nat} {st' : St} (C : Cx p s m args c cX2_become 3 wsX2_become RX2 g A) (hret : RetV p l e rmX2_becomev01 s m args below meth c Q cX2_become g A (wCX g Y ad st')) (N : Nat)  (k : Int32 → St → Option (St)) (hk : ∀ (x2 : Int32) (st : St) (H : Heap) (locs : List Loc) (ls : Array Slot), k x2 st = some st' → IW g A s.heap (wCX g Y ad st) H locs → lv_has ls 3 [(0, .ref (ad 1)), (1, .ref (ad 17)), (2, .int x2)] → W p l e rmX2_becomev01 s m args below meth c H locs 0 0 Q (F0 m 29 ls [])) : ∀ (n : Nat) (x2 : Int32) (st : St) (H : Heap) (locs : List Loc) (ls : Array Slot), f_X2_becomev01_L2 N k n x2 st = some st' → IW g A s.heap (wCX g Y ad st) H locs → lv_has ls 3 [(0, .ref (ad 1)), (1, .ref (ad 17)), (2, .int x2)] → W p l e rmX2_becomev01 s m args below meth c H locs 0 0 Q (F0 m 2 ls []) := by
  obtain ⟨hx, hb, hml, hown, hts⟩ := id C.1
  have hinRX2 : ∀ w ∈ u_ws RX2 TX2 7, w ∈ wsX2_become := by decide +kernel
  have lk11 := hts (.fieldLink RX2 11 "GraveRows$Ground" "graves" "[LGraveRows$Grave;") (by decide +kernel)
  intro n
  induction n with
  | zero =>
    intro x2 st H locs ls h hI hl
    rw [f_X2_becomev01_L2] at h
    cases h
  | succ n ih =>
    intro x2 st H locs ls h hI hl
    rw [f_X2_becomev01_L2] at h
    refine lv_iload_n hx hb dX2_become_2 rfl (lv_at hl 2 rfl) ?_
    refine lv_bipush (v := 10) hx hb dX2_become_3 (by decide) ?_
    refine lv_icmp_ge (tgt := 29) hx hb dX2_become_5 (by decide) (fun c_1 => ?_) (fun c_1 => ?_)
    · replace h := (if_pos c_1).symm.trans h
      exact hk _ _ _ _ _ h hI (lv_sub hl [0, 1, 2] rfl)
    · replace h := (if_neg c_1).symm.trans h
      refine lv_aload_n hx hb dX2_become_8 rfl (lv_at hl 0 rfl) ?_
      refine w_get (v := .ref (ad 2)) C hinRX2 hI 1 at_G0 rfl 0 (by decide) lk11 rfl rfl dX2_become_9 ?_
      refine lv_iload_n hx hb dX2_become_12 rfl (lv_at hl 2 rfl) ?_
      refine w_ald (t0 := 2) (fa := fun j => ad (7 + j)) C hI 2 ra_2 rfl (fun _ => rfl) h dX2_become_13 (fun j_2 hj_2 h => ?_)
      refine lv_aload_n hx hb dX2_become_14 rfl (lv_at hl 1 rfl) ?_
      refine w_get (v := .ref (ad 18)) C hinRX2 hI 17 at_G1 rfl 0 (by decide) lk11 rfl rfl dX2_become_15 ?_
      refine lv_iload_n hx hb dX2_become_18 rfl (lv_at hl 2 rfl) ?_
      refine w_ald (t0 := 2) (fa := fun j => ad (23 + j)) C hI 18 ra_18 rfl (fun _ => rfl) h dX2_become_19 (fun j_3 hj_3 h => ?_)
      obtain ⟨st_5, hr_4, h⟩ := bd1_some h
      refine callV_V (rest := []) C hI (c_X1_becomev01 l g Y ad j_2 j_3 hj_2 hj_3 st hr_4) (cwV 1 hts gX2_become_X1_become rfl rfl rfl hv_X1_become ⟨Nat.le_of_ble_eq_true rfl, Nat.le_of_ble_eq_true rfl⟩) (w_recv C hI (7 + j_2) (at_V0 hj_2) rfl) rfl hl.1 rfl (Nat.le_of_ble_eq_true rfl) dX2_become_20 (fun H locs hI => ?_)
      refine lv_iinc (v := x2 + 1) (lv' := [(2, .int (x2 + 1)), (0, .ref (ad 1)), (1, .ref (ad 17))]) hx hb dX2_become_23 hl (k := 2) rfl rfl (by decide) rfl (fun ls hl => ?_)
      refine lv_goto (tgt := 2) hx hb dX2_become_26 (by decide) ?_
      exact ih _ _ _ _ _ h hI (lv_sub hl [1, 2, 0] rfl)
set_option maxHeartbeats 4000000 in
set_option maxRecDepth 100000 in
theorem c_X2_becomev01 (l : Launch) (g : GP) (Y : va_W) (ad : Nat → Nat) (N : Nat)  (st : St) {st' : St} (h : f_X2_becomev01 N st = some st') : MetV l yX2_become wsX2_become rmX2_becomev01 g (wCX g Y ad) [.ref (ad 1), .ref (ad 17)] st st' := by
  refine metV_of (cc := cX2_become) (nL := 3) (by decide) rfl (Nat.le_of_ble_eq_true rfl) ?_
  intro p e s m below meth c Q A C hret H locs hI ls hl
  have C : Cx p s m _ c cX2_become 3 wsX2_become RX2 g A := C
  obtain ⟨hx, hb, hml, hown, hts⟩ := id C.1
  have hl : lv_has ls 3 [(0, .ref (ad 1)), (1, .ref (ad 17))] := hl
  have hinRX2 : ∀ w ∈ u_ws RX2 TX2 7, w ∈ wsX2_become := by decide +kernel
  have lk17 := hts (.fieldLink RX2 17 "GraveRows$Ground" "weightsOfMan" "[I") (by decide +kernel)
  have cpl35 := hts (.methodLink RX2 35 arraycopyName) (by decide +kernel)
  have cpx : (Cond.native arraycopyName).before _ _ = true ∧ (Cond.static arraycopyName).before _ _ = true ∧ (Cond.initialized "java/lang/System").before _ _ = true := ⟨hts _ (by decide +kernel), hts _ (by decide +kernel), hts _ (by decide +kernel)⟩
  have lk21 := hts (.fieldLink RX2 21 "GraveRows$Ground" "weightsOfWoman" "[I") (by decide +kernel)
  have lk24 := hts (.fieldLink RX2 24 "GraveRows$Ground" "waiting" "[I") (by decide +kernel)
  have lk41 := hts (.fieldLink RX2 41 "GraveRows$Ground" "size" "I") (by decide +kernel)
  have lk45 := hts (.fieldLink RX2 45 "GraveRows$Ground" "waits" "I") (by decide +kernel)
  rw [f_X2_becomev01] at h
  refine lv_iconst (v := 0) hx hb dX2_become_0 (by decide) ?_
  refine lv_istore_n (lv' := [(2, .int 0), (0, .ref (ad 1)), (1, .ref (ad 17))]) hx hb dX2_become_1 rfl hl (by decide) rfl (fun ls hl => ?_)
  refine wl_X2_becomev01_L2 C hret N _ (fun a_6 st_7 H locs ls h hI hl => ?_) N 0 st H locs ls h hI (lv_sub hl [1, 2, 0] rfl)
  refine lv_aload_n hx hb dX2_become_29 rfl (lv_at hl 1 rfl) ?_
  refine w_get (v := .ref (ad 19)) C hinRX2 hI 17 at_G1 rfl 1 (by decide) lk17 rfl rfl dX2_become_30 ?_
  refine lv_iconst (v := 0) hx hb dX2_become_33 (by decide) ?_
  refine lv_aload_n hx hb dX2_become_34 rfl (lv_at hl 0 rfl) ?_
  refine w_get (v := .ref (ad 3)) C hinRX2 hI 1 at_G0 rfl 1 (by decide) lk17 rfl rfl dX2_become_35 ?_
  refine lv_iconst (v := 0) hx hb dX2_become_38 (by decide) ?_
  refine lv_bipush (v := 6) hx hb dX2_become_39 (by decide) ?_
  refine w_cpy C hI hl.1 cpl35 cpx 19 3 ar_19 ar_3 sa_3 h (Nat.le_of_ble_eq_true rfl) (Nat.le_of_ble_eq_true rfl) dX2_become_41 (fun st_8 H locs h hI => ?_)
  refine lv_aload_n hx hb dX2_become_44 rfl (lv_at hl 1 rfl) ?_
  refine w_get (v := .ref (ad 20)) C hinRX2 hI 17 at_G1 rfl 2 (by decide) lk21 rfl rfl dX2_become_45 ?_
  refine lv_iconst (v := 0) hx hb dX2_become_48 (by decide) ?_
  refine lv_aload_n hx hb dX2_become_49 rfl (lv_at hl 0 rfl) ?_
  refine w_get (v := .ref (ad 4)) C hinRX2 hI 1 at_G0 rfl 2 (by decide) lk21 rfl rfl dX2_become_50 ?_
  refine lv_iconst (v := 0) hx hb dX2_become_53 (by decide) ?_
  refine lv_bipush (v := 6) hx hb dX2_become_54 (by decide) ?_
  refine w_cpy C hI hl.1 cpl35 cpx 20 4 ar_20 ar_4 sa_4 h (Nat.le_of_ble_eq_true rfl) (Nat.le_of_ble_eq_true rfl) dX2_become_56 (fun st_9 H locs h hI => ?_)
  refine lv_aload_n hx hb dX2_become_59 rfl (lv_at hl 1 rfl) ?_
  refine w_get (v := .ref (ad 21)) C hinRX2 hI 17 at_G1 rfl 3 (by decide) lk24 rfl rfl dX2_become_60 ?_
  refine lv_iconst (v := 0) hx hb dX2_become_63 (by decide) ?_
  refine lv_aload_n hx hb dX2_become_64 rfl (lv_at hl 0 rfl) ?_
  refine w_get (v := .ref (ad 5)) C hinRX2 hI 1 at_G0 rfl 3 (by decide) lk24 rfl rfl dX2_become_65 ?_
  refine lv_iconst (v := 0) hx hb dX2_become_68 (by decide) ?_
  refine lv_bipush (v := 12) hx hb dX2_become_69 (by decide) ?_
  refine w_cpy C hI hl.1 cpl35 cpx 21 5 ar_21 ar_5 sa_5 h (Nat.le_of_ble_eq_true rfl) (Nat.le_of_ble_eq_true rfl) dX2_become_71 (fun st_10 H locs h hI => ?_)
  refine lv_aload_n hx hb dX2_become_74 rfl (lv_at hl 0 rfl) ?_
  refine lv_aload_n hx hb dX2_become_75 rfl (lv_at hl 1 rfl) ?_
  refine w_get (v := .int (st_10 29 0)) C hinRX2 hI 17 at_G1 rfl 5 (by decide) lk41 rfl rfl dX2_become_76 ?_
  refine w_put C hinRX2 tyX2 tyX2_ok nmX2 hI 1 at_G0 rfl 5 h st_G0_size (by decide) (Nat.le_of_ble_eq_true rfl) lk41 ⟨rfl, rfl⟩ rfl rfl dX2_become_79 (fun st_11 H locs h hI => ?_)
  refine lv_aload_n hx hb dX2_become_82 rfl (lv_at hl 0 rfl) ?_
  refine lv_aload_n hx hb dX2_become_83 rfl (lv_at hl 1 rfl) ?_
  refine w_get (v := .int (st_11 29 1)) C hinRX2 hI 17 at_G1 rfl 6 (by decide) lk45 rfl rfl dX2_become_84 ?_
  refine w_put C hinRX2 tyX2 tyX2_ok nmX2 hI 1 at_G0 rfl 6 h st_G0_waits (by decide) (Nat.le_of_ble_eq_true rfl) lk45 ⟨rfl, rfl⟩ rfl rfl dX2_become_87 (fun st_12 H locs h hI => ?_)
  obtain rfl := ret1 h
  exact hret H locs _ ls hI dX2_become_90
/-! X2_holds -/
def rmX2_holds : Room := { frames := 0, cells := 0, slots := 0, locals := 0 }
def f_X2_holds (st : St) (x1 : Int32) : Bool := if x1 < 0 then false else if st 13 0 ≤ x1 then false else true
set_option maxHeartbeats 4000000 in
set_option maxRecDepth 100000 in
theorem c_X2_holds (l : Launch) (g : GP) (Y : va_W) (ad : Nat → Nat) (x1 : Int32)  (st : St) : MetI l yX2_holds wsX2_holds rmX2_holds g (wCX g Y ad) [.ref (ad 1), .int x1] st (b2i (f_X2_holds st x1)) st := by
  refine metI_of (cc := cX2_holds) (nL := 2) (ty := .boolean) (by decide) rfl (Nat.le_of_ble_eq_true rfl) (nar_b _) ?_
  intro p e s m below meth c Q A C hret H locs hI ls hl
  have C : Cx p s m _ c cX2_holds 2 wsX2_holds RX2 g A := C
  obtain ⟨hx, hb, hml, hown, hts⟩ := id C.1
  have hl : lv_has ls 2 [(0, .ref (ad 1)), (1, .int x1)] := hl
  have hinRX2 : ∀ w ∈ u_ws RX2 TX2 7, w ∈ wsX2_holds := by decide +kernel
  have lk41 := hts (.fieldLink RX2 41 "GraveRows$Ground" "size" "I") (by decide +kernel)
  generalize hgen : f_X2_holds st x1 = r at hret
  have h := hgen
  rw [f_X2_holds] at h
  refine lv_iload_n hx hb dX2_holds_0 rfl (lv_at hl 1 rfl) ?_
  refine lv_if_lt (tgt := 16) hx hb dX2_holds_1 (by decide) (fun c_1 => ?_) (fun c_1 => ?_)
  · replace h := (if_pos c_1).symm.trans h
    refine lv_iconst (v := 0) hx hb dX2_holds_16 (by decide) ?_
    subst h
    exact hret H locs _ ls hI dX2_holds_17
  · replace h := (if_neg c_1).symm.trans h
    refine lv_iload_n hx hb dX2_holds_4 rfl (lv_at hl 1 rfl) ?_
    refine lv_aload_n hx hb dX2_holds_5 rfl (lv_at hl 0 rfl) ?_
    refine w_get (v := .int (st 13 0)) C hinRX2 hI 1 at_G0 rfl 5 (by decide) lk41 rfl rfl dX2_holds_6 ?_
    refine lv_icmp_ge (tgt := 16) hx hb dX2_holds_9 (by decide) (fun c_2 => ?_) (fun c_2 => ?_)
    · replace h := (if_pos c_2).symm.trans h
      refine lv_iconst (v := 0) hx hb dX2_holds_16 (by decide) ?_
      subst h
      exact hret H locs _ ls hI dX2_holds_17
    · replace h := (if_neg c_2).symm.trans h
      refine lv_iconst (v := 1) hx hb dX2_holds_12 (by decide) ?_
      refine lv_goto (tgt := 17) hx hb dX2_holds_13 (by decide) ?_
      subst h
      exact hret H locs _ ls hI dX2_holds_17
theorem hv_X2_holds : yX2_holds.cls = RX2 ∧ yX2_holds.cls ≠ "java/lang/invoke/MethodHandle" ∧ yX2_holds.cls ≠ "java/lang/invoke/VarHandle" ∧ (parseMethodDescriptor yX2_holds.desc).map (fun d => d.parameters.length) = some 1 := by decide +kernel
/-! X2_open -/
def rmX2_open : Room := { frames := 1, cells := 0, slots := 0, locals := 23 }
def f_X2_open (st : St) (x1 : Int32) (x2 : Int32) (x3 : Int32) : Option (Int32 × St) := ck 10 (st 13 0) fun j_1 => bd1 (f_X1_beginAs st j_1 x1 x2 x3) fun st_3 => bnd (sU st_3 13 0 ((st_3 13 0) + 1)) fun st_4 => some ((st_4 13 0) - 1, st_4)
set_option maxHeartbeats 4000000 in
set_option maxRecDepth 100000 in
theorem c_X2_open (l : Launch) (g : GP) (Y : va_W) (ad : Nat → Nat) (x1 : Int32) (x2 : Int32) (x3 : Int32)  (st : St) {r : Int32} {st' : St} (h : f_X2_open st x1 x2 x3 = some (r, st')) : MetI l yX2_open wsX2_open rmX2_open g (wCX g Y ad) [.ref (ad 1), .int x1, .int x2, .int x3] st (r) st' := by
  refine metI_of (cc := cX2_open) (nL := 4) (ty := .int) (by decide) rfl (Nat.le_of_ble_eq_true rfl) rfl ?_
  intro p e s m below meth c Q A C hret H locs hI ls hl
  have C : Cx p s m _ c cX2_open 4 wsX2_open RX2 g A := C
  obtain ⟨hx, hb, hml, hown, hts⟩ := id C.1
  have hl : lv_has ls 4 [(0, .ref (ad 1)), (1, .int x1), (2, .int x2), (3, .int x3)] := hl
  have hinRX2 : ∀ w ∈ u_ws RX2 TX2 7, w ∈ wsX2_open := by decide +kernel
  have lk11 := hts (.fieldLink RX2 11 "GraveRows$Ground" "graves" "[LGraveRows$Grave;") (by decide +kernel)
  have lk41 := hts (.fieldLink RX2 41 "GraveRows$Ground" "size" "I") (by decide +kernel)
  rw [f_X2_open] at h
  refine lv_aload_n hx hb dX2_open_0 rfl (lv_at hl 0 rfl) ?_
  refine w_get (v := .ref (ad 2)) C hinRX2 hI 1 at_G0 rfl 0 (by decide) lk11 rfl rfl dX2_open_1 ?_
  refine lv_aload_n hx hb dX2_open_4 rfl (lv_at hl 0 rfl) ?_
  refine w_get (v := .int (st 13 0)) C hinRX2 hI 1 at_G0 rfl 5 (by decide) lk41 rfl rfl dX2_open_5 ?_
  refine w_ald (t0 := 2) (fa := fun j => ad (7 + j)) C hI 2 ra_2 rfl (fun _ => rfl) h dX2_open_8 (fun j_1 hj_1 h => ?_)
  refine lv_iload_n hx hb dX2_open_9 rfl (lv_at hl 1 rfl) ?_
  refine lv_iload_n hx hb dX2_open_10 rfl (lv_at hl 2 rfl) ?_
  refine lv_iload_n hx hb dX2_open_11 rfl (lv_at hl 3 rfl) ?_
  obtain ⟨st_3, hr_2, h⟩ := bd1_some h
  refine callV_V (rest := []) C hI (c_X1_beginAs l g Y ad j_1 x1 x2 x3 hj_1 st hr_2) (cwV 3 hts gX2_open_X1_beginAs rfl rfl rfl hv_X1_beginAs ⟨Nat.le_of_ble_eq_true rfl, Nat.le_of_ble_eq_true rfl⟩) (w_recv C hI (7 + j_1) (at_V0 hj_1) rfl) rfl hl.1 rfl (Nat.le_of_ble_eq_true rfl) dX2_open_12 (fun H locs hI => ?_)
  refine lv_aload_n hx hb dX2_open_15 rfl (lv_at hl 0 rfl) ?_
  refine lv_dup hx hb dX2_open_16 rfl ?_
  refine w_get (v := .int (st_3 13 0)) C hinRX2 hI 1 at_G0 rfl 5 (by decide) lk41 rfl rfl dX2_open_17 ?_
  refine lv_iconst (v := 1) hx hb dX2_open_20 (by decide) ?_
  refine lv_iadd hx hb dX2_open_21 ?_
  refine w_put C hinRX2 tyX2 tyX2_ok nmX2 hI 1 at_G0 rfl 5 h st_G0_size (by decide) (Nat.le_of_ble_eq_true rfl) lk41 ⟨rfl, rfl⟩ rfl rfl dX2_open_22 (fun st_4 H locs h hI => ?_)
  refine lv_aload_n hx hb dX2_open_25 rfl (lv_at hl 0 rfl) ?_
  refine w_get (v := .int (st_4 13 0)) C hinRX2 hI 1 at_G0 rfl 5 (by decide) lk41 rfl rfl dX2_open_26 ?_
  refine lv_iconst (v := 1) hx hb dX2_open_29 (by decide) ?_
  refine lv_isub hx hb dX2_open_30 ?_
  obtain ⟨rfl, rfl⟩ := ret2 h
  exact hret H locs _ ls hI dX2_open_31
theorem hv_X2_open : yX2_open.cls = RX2 ∧ yX2_open.cls ≠ "java/lang/invoke/MethodHandle" ∧ yX2_open.cls ≠ "java/lang/invoke/VarHandle" ∧ (parseMethodDescriptor yX2_open.desc).map (fun d => d.parameters.length) = some 3 := by decide +kernel
/-! X2_closeLast -/
def rmX2_closeLast : Room := { frames := 0, cells := 0, slots := 0, locals := 0 }
def f_X2_closeLast_L12 (N : Nat) (k : Int32 → St → Option (St)) : Nat → Int32 → St → Option (St)
  | 0, _, _ => none
  | n + 1, x1, st => if st 13 0 ≤ x1 then k x1 st else ck 10 x1 fun j_3 => bnd (sU st 6 j_3 ((st 6 j_3) &&& (((1 : Int32) <<< ((st 13 0) &&& 31)) ^^^ (-1 : Int32)))) fun st_4 => f_X2_closeLast_L12 N k n (x1 + 1) st_4
def f_X2_closeLast (N : Nat) (st : St) : Option (St) := bnd (sU st 13 0 ((st 13 0) - 1)) fun st_1 => f_X2_closeLast_L12 N (fun a_5 st_6 => some st_6) N 0 st_1
set_option maxHeartbeats 4000000 in
set_option maxRecDepth 100000 in
theorem wl_X2_closeLast_L12 {p : Program} {l : Launch} {e : Env} {s : State} {m : MethodId} {args : Array Value} {below : List Frame} {meth : Method} {c : Code} {Q : State → Prop} {A : Nat → Prop} {g : GP} {Y : va_W} {ad : Nat → Nat} {st' : St} (C : Cx p s m args c cX2_closeLast 2 wsX2_closeLast RX2 g A) (hret : RetV p l e rmX2_closeLast s m args below meth c Q cX2_closeLast g A (wCX g Y ad st')) (N : Nat)  (k : Int32 → St → Option (St)) (hk : ∀ (x1 : Int32) (st : St) (H : Heap) (locs : List Loc) (ls : Array Slot), k x1 st = some st' → IW g A s.heap (wCX g Y ad st) H locs → lv_has ls 2 [(0, .ref (ad 1)), (1, .int x1)] → W p l e rmX2_closeLast s m args below meth c H locs 0 0 Q (F0 m 48 ls [])) : ∀ (n : Nat) (x1 : Int32) (st : St) (H : Heap) (locs : List Loc) (ls : Array Slot), f_X2_closeLast_L12 N k n x1 st = some st' → IW g A s.heap (wCX g Y ad st) H locs → lv_has ls 2 [(0, .ref (ad 1)), (1, .int x1)] → W p l e rmX2_closeLast s m args below meth c H locs 0 0 Q (F0 m 12 ls []) := by
  obtain ⟨hx, hb, hml, hown, hts⟩ := id C.1
  have hinRX2 : ∀ w ∈ u_ws RX2 TX2 7, w ∈ wsX2_closeLast := by decide +kernel
  have lk41 := hts (.fieldLink RX2 41 "GraveRows$Ground" "size" "I") (by decide +kernel)
  have lk11 := hts (.fieldLink RX2 11 "GraveRows$Ground" "graves" "[LGraveRows$Grave;") (by decide +kernel)
  have hinRX1 : ∀ w ∈ u_ws RX1 TX1 9, w ∈ wsX2_closeLast := by decide +kernel
  have lk52 := hts (.fieldLink RX2 52 "GraveRows$Grave" "cuts" "I") (by decide +kernel)
  intro n
  induction n with
  | zero =>
    intro x1 st H locs ls h hI hl
    rw [f_X2_closeLast_L12] at h
    cases h
  | succ n ih =>
    intro x1 st H locs ls h hI hl
    rw [f_X2_closeLast_L12] at h
    refine lv_iload_n hx hb dX2_closeLast_12 rfl (lv_at hl 1 rfl) ?_
    refine lv_aload_n hx hb dX2_closeLast_13 rfl (lv_at hl 0 rfl) ?_
    refine w_get (v := .int (st 13 0)) C hinRX2 hI 1 at_G0 rfl 5 (by decide) lk41 rfl rfl dX2_closeLast_14 ?_
    refine lv_icmp_ge (tgt := 48) hx hb dX2_closeLast_17 (by decide) (fun c_2 => ?_) (fun c_2 => ?_)
    · replace h := (if_pos c_2).symm.trans h
      exact hk _ _ _ _ _ h hI (lv_sub hl [0, 1] rfl)
    · replace h := (if_neg c_2).symm.trans h
      refine lv_aload_n hx hb dX2_closeLast_20 rfl (lv_at hl 0 rfl) ?_
      refine w_get (v := .ref (ad 2)) C hinRX2 hI 1 at_G0 rfl 0 (by decide) lk11 rfl rfl dX2_closeLast_21 ?_
      refine lv_iload_n hx hb dX2_closeLast_24 rfl (lv_at hl 1 rfl) ?_
      refine w_ald (t0 := 2) (fa := fun j => ad (7 + j)) C hI 2 ra_2 rfl (fun _ => rfl) h dX2_closeLast_25 (fun j_3 hj_3 h => ?_)
      refine lv_dup hx hb dX2_closeLast_26 rfl ?_
      refine w_get (v := .int (st 6 j_3)) C hinRX1 hI (7 + j_3) (at_V0 hj_3) rfl 6 (by decide) lk52 rfl rfl dX2_closeLast_27 ?_
      refine lv_iconst (v := 1) hx hb dX2_closeLast_30 (by decide) ?_
      refine lv_aload_n hx hb dX2_closeLast_31 rfl (lv_at hl 0 rfl) ?_
      refine w_get (v := .int (st 13 0)) C hinRX2 hI 1 at_G0 rfl 5 (by decide) lk41 rfl rfl dX2_closeLast_32 ?_
      refine lv_ishl hx hb dX2_closeLast_35 ?_
      refine lv_iconst (v := (-1)) hx hb dX2_closeLast_36 (by decide) ?_
      refine lv_ixor hx hb dX2_closeLast_37 ?_
      refine lv_iand hx hb dX2_closeLast_38 ?_
      refine w_put C hinRX1 tyX1 tyX1_ok nmX1 hI (7 + j_3) (at_V0 hj_3) rfl 6 h (st_V0_cuts hj_3) (by decide) (Nat.le_of_ble_eq_true rfl) lk52 ⟨rfl, rfl⟩ rfl rfl dX2_closeLast_39 (fun st_4 H locs h hI => ?_)
      refine lv_iinc (v := x1 + 1) (lv' := [(1, .int (x1 + 1)), (0, .ref (ad 1))]) hx hb dX2_closeLast_42 hl (k := 1) rfl rfl (by decide) rfl (fun ls hl => ?_)
      refine lv_goto (tgt := 12) hx hb dX2_closeLast_45 (by decide) ?_
      exact ih _ _ _ _ _ h hI (lv_sub hl [1, 0] rfl)
set_option maxHeartbeats 4000000 in
set_option maxRecDepth 100000 in
theorem c_X2_closeLast (l : Launch) (g : GP) (Y : va_W) (ad : Nat → Nat) (N : Nat)  (st : St) {st' : St} (h : f_X2_closeLast N st = some st') : MetV l yX2_closeLast wsX2_closeLast rmX2_closeLast g (wCX g Y ad) [.ref (ad 1)] st st' := by
  refine metV_of (cc := cX2_closeLast) (nL := 2) (by decide) rfl (Nat.le_of_ble_eq_true rfl) ?_
  intro p e s m below meth c Q A C hret H locs hI ls hl
  have C : Cx p s m _ c cX2_closeLast 2 wsX2_closeLast RX2 g A := C
  obtain ⟨hx, hb, hml, hown, hts⟩ := id C.1
  have hl : lv_has ls 2 [(0, .ref (ad 1))] := hl
  have hinRX2 : ∀ w ∈ u_ws RX2 TX2 7, w ∈ wsX2_closeLast := by decide +kernel
  have lk41 := hts (.fieldLink RX2 41 "GraveRows$Ground" "size" "I") (by decide +kernel)
  rw [f_X2_closeLast] at h
  refine lv_aload_n hx hb dX2_closeLast_0 rfl (lv_at hl 0 rfl) ?_
  refine lv_dup hx hb dX2_closeLast_1 rfl ?_
  refine w_get (v := .int (st 13 0)) C hinRX2 hI 1 at_G0 rfl 5 (by decide) lk41 rfl rfl dX2_closeLast_2 ?_
  refine lv_iconst (v := 1) hx hb dX2_closeLast_5 (by decide) ?_
  refine lv_isub hx hb dX2_closeLast_6 ?_
  refine w_put C hinRX2 tyX2 tyX2_ok nmX2 hI 1 at_G0 rfl 5 h st_G0_size (by decide) (Nat.le_of_ble_eq_true rfl) lk41 ⟨rfl, rfl⟩ rfl rfl dX2_closeLast_7 (fun st_1 H locs h hI => ?_)
  refine lv_iconst (v := 0) hx hb dX2_closeLast_10 (by decide) ?_
  refine lv_istore_n (lv' := [(1, .int 0), (0, .ref (ad 1))]) hx hb dX2_closeLast_11 rfl hl (by decide) rfl (fun ls hl => ?_)
  refine wl_X2_closeLast_L12 C hret N _ (fun a_5 st_6 H locs ls h hI hl => ?_) N 0 st_1 H locs ls h hI (lv_sub hl [1, 0] rfl)
  obtain rfl := ret1 h
  exact hret H locs _ ls hI dX2_closeLast_48
theorem hv_X2_closeLast : yX2_closeLast.cls = RX2 ∧ yX2_closeLast.cls ≠ "java/lang/invoke/MethodHandle" ∧ yX2_closeLast.cls ≠ "java/lang/invoke/VarHandle" ∧ (parseMethodDescriptor yX2_closeLast.desc).map (fun d => d.parameters.length) = some 0 := by decide +kernel
/-! X2_setCut -/
def rmX2_setCut : Room := { frames := 0, cells := 0, slots := 0, locals := 0 }
def f_X2_setCut (st : St) (x1 : Int32) (x2 : Int32) (x3 : Bool) : Option (Bool × St) := ck 10 x1 fun j_1 => bnd (st 6 j_1) fun v_2 => bnd ((1 : Int32) <<< (x2 &&& 31)) fun v_3 => ck 10 x1 fun j_4 => if b2i x3 = 0 then bnd (sU st 6 j_4 (v_2 &&& (v_3 ^^^ (-1 : Int32)))) fun st_6 => ck 10 x1 fun j_7 => if st_6 6 j_7 = v_2 then some (false, st_6) else some (true, st_6) else bnd (sU st 6 j_4 (v_2 ||| v_3)) fun st_9 => ck 10 x1 fun j_10 => if st_9 6 j_10 = v_2 then some (false, st_9) else some (true, st_9)
set_option maxHeartbeats 4000000 in
set_option maxRecDepth 100000 in
theorem c_X2_setCut (l : Launch) (g : GP) (Y : va_W) (ad : Nat → Nat) (x1 : Int32) (x2 : Int32) (x3 : Bool)  (st : St) {r : Bool} {st' : St} (h : f_X2_setCut st x1 x2 x3 = some (r, st')) : MetI l yX2_setCut wsX2_setCut rmX2_setCut g (wCX g Y ad) [.ref (ad 1), .int x1, .int x2, .int (b2i x3)] st (b2i r) st' := by
  refine metI_of (cc := cX2_setCut) (nL := 6) (ty := .boolean) (by decide) rfl (Nat.le_of_ble_eq_true rfl) (nar_b _) ?_
  intro p e s m below meth c Q A C hret H locs hI ls hl
  have C : Cx p s m _ c cX2_setCut 6 wsX2_setCut RX2 g A := C
  obtain ⟨hx, hb, hml, hown, hts⟩ := id C.1
  have hl : lv_has ls 6 [(0, .ref (ad 1)), (1, .int x1), (2, .int x2), (3, .int (b2i x3))] := hl
  have hinRX2 : ∀ w ∈ u_ws RX2 TX2 7, w ∈ wsX2_setCut := by decide +kernel
  have lk11 := hts (.fieldLink RX2 11 "GraveRows$Ground" "graves" "[LGraveRows$Grave;") (by decide +kernel)
  have hinRX1 : ∀ w ∈ u_ws RX1 TX1 9, w ∈ wsX2_setCut := by decide +kernel
  have lk52 := hts (.fieldLink RX2 52 "GraveRows$Grave" "cuts" "I") (by decide +kernel)
  rw [f_X2_setCut] at h
  refine lv_aload_n hx hb dX2_setCut_0 rfl (lv_at hl 0 rfl) ?_
  refine w_get (v := .ref (ad 2)) C hinRX2 hI 1 at_G0 rfl 0 (by decide) lk11 rfl rfl dX2_setCut_1 ?_
  refine lv_iload_n hx hb dX2_setCut_4 rfl (lv_at hl 1 rfl) ?_
  refine w_ald (t0 := 2) (fa := fun j => ad (7 + j)) C hI 2 ra_2 rfl (fun _ => rfl) h dX2_setCut_5 (fun j_1 hj_1 h => ?_)
  refine w_get (v := .int (st 6 j_1)) C hinRX1 hI (7 + j_1) (at_V0 hj_1) rfl 6 (by decide) lk52 rfl rfl dX2_setCut_6 ?_
  refine gen_i h (fun v_2 h => ?_)
  refine lv_istore (lv' := [(4, .int v_2), (0, .ref (ad 1)), (1, .int x1), (2, .int x2), (3, .int (b2i x3))]) hx hb dX2_setCut_9 hl (by decide) rfl (fun ls hl => ?_)
  refine lv_iconst (v := 1) hx hb dX2_setCut_11 (by decide) ?_
  refine lv_iload_n hx hb dX2_setCut_12 rfl (lv_at hl 3 rfl) ?_
  refine lv_ishl hx hb dX2_setCut_13 ?_
  refine gen_i h (fun v_3 h => ?_)
  refine lv_istore (lv' := [(5, .int v_3), (4, .int v_2), (0, .ref (ad 1)), (1, .int x1), (2, .int x2), (3, .int (b2i x3))]) hx hb dX2_setCut_14 hl (by decide) rfl (fun ls hl => ?_)
  refine lv_aload_n hx hb dX2_setCut_16 rfl (lv_at hl 2 rfl) ?_
  refine w_get (v := .ref (ad 2)) C hinRX2 hI 1 at_G0 rfl 0 (by decide) lk11 rfl rfl dX2_setCut_17 ?_
  refine lv_iload_n hx hb dX2_setCut_20 rfl (lv_at hl 3 rfl) ?_
  refine w_ald (t0 := 2) (fa := fun j => ad (7 + j)) C hI 2 ra_2 rfl (fun _ => rfl) h dX2_setCut_21 (fun j_4 hj_4 h => ?_)
  refine lv_iload_n hx hb dX2_setCut_22 rfl (lv_at hl 5 rfl) ?_
  refine lv_if_eq (tgt := 34) hx hb dX2_setCut_23 (by decide) (fun c_5 => ?_) (fun c_5 => ?_)
  · replace h := (if_pos c_5).symm.trans h
    refine lv_iload hx hb dX2_setCut_34 (lv_at hl 1 rfl) ?_
    refine lv_iload hx hb dX2_setCut_36 (lv_at hl 0 rfl) ?_
    refine lv_iconst (v := (-1)) hx hb dX2_setCut_38 (by decide) ?_
    refine lv_ixor hx hb dX2_setCut_39 ?_
    refine lv_iand hx hb dX2_setCut_40 ?_
    refine w_put C hinRX1 tyX1 tyX1_ok nmX1 hI (7 + j_4) (at_V0 hj_4) rfl 6 h (st_V0_cuts hj_4) (by decide) (Nat.le_of_ble_eq_true rfl) lk52 ⟨rfl, rfl⟩ rfl rfl dX2_setCut_41 (fun st_6 H locs h hI => ?_)
    refine lv_aload_n hx hb dX2_setCut_44 rfl (lv_at hl 2 rfl) ?_
    refine w_get (v := .ref (ad 2)) C hinRX2 hI 1 at_G0 rfl 0 (by decide) lk11 rfl rfl dX2_setCut_45 ?_
    refine lv_iload_n hx hb dX2_setCut_48 rfl (lv_at hl 3 rfl) ?_
    refine w_ald (t0 := 2) (fa := fun j => ad (7 + j)) C hI 2 ra_2 rfl (fun _ => rfl) h dX2_setCut_49 (fun j_7 hj_7 h => ?_)
    refine w_get (v := .int (st_6 6 j_7)) C hinRX1 hI (7 + j_7) (at_V0 hj_7) rfl 6 (by decide) lk52 rfl rfl dX2_setCut_50 ?_
    refine lv_iload hx hb dX2_setCut_53 (lv_at hl 1 rfl) ?_
    refine lv_icmp_eq (tgt := 62) hx hb dX2_setCut_55 (by decide) (fun c_8 => ?_) (fun c_8 => ?_)
    · replace h := (if_pos c_8).symm.trans h
      refine lv_iconst (v := 0) hx hb dX2_setCut_62 (by decide) ?_
      obtain ⟨rfl, rfl⟩ := ret2 h
      exact hret H locs _ ls hI dX2_setCut_63
    · replace h := (if_neg c_8).symm.trans h
      refine lv_iconst (v := 1) hx hb dX2_setCut_58 (by decide) ?_
      refine lv_goto (tgt := 63) hx hb dX2_setCut_59 (by decide) ?_
      obtain ⟨rfl, rfl⟩ := ret2 h
      exact hret H locs _ ls hI dX2_setCut_63
  · replace h := (if_neg c_5).symm.trans h
    refine lv_iload hx hb dX2_setCut_26 (lv_at hl 1 rfl) ?_
    refine lv_iload hx hb dX2_setCut_28 (lv_at hl 0 rfl) ?_
    refine lv_ior hx hb dX2_setCut_30 ?_
    refine lv_goto (tgt := 41) hx hb dX2_setCut_31 (by decide) ?_
    refine w_put C hinRX1 tyX1 tyX1_ok nmX1 hI (7 + j_4) (at_V0 hj_4) rfl 6 h (st_V0_cuts hj_4) (by decide) (Nat.le_of_ble_eq_true rfl) lk52 ⟨rfl, rfl⟩ rfl rfl dX2_setCut_41 (fun st_9 H locs h hI => ?_)
    refine lv_aload_n hx hb dX2_setCut_44 rfl (lv_at hl 2 rfl) ?_
    refine w_get (v := .ref (ad 2)) C hinRX2 hI 1 at_G0 rfl 0 (by decide) lk11 rfl rfl dX2_setCut_45 ?_
    refine lv_iload_n hx hb dX2_setCut_48 rfl (lv_at hl 3 rfl) ?_
    refine w_ald (t0 := 2) (fa := fun j => ad (7 + j)) C hI 2 ra_2 rfl (fun _ => rfl) h dX2_setCut_49 (fun j_10 hj_10 h => ?_)
    refine w_get (v := .int (st_9 6 j_10)) C hinRX1 hI (7 + j_10) (at_V0 hj_10) rfl 6 (by decide) lk52 rfl rfl dX2_setCut_50 ?_
    refine lv_iload hx hb dX2_setCut_53 (lv_at hl 1 rfl) ?_
    refine lv_icmp_eq (tgt := 62) hx hb dX2_setCut_55 (by decide) (fun c_11 => ?_) (fun c_11 => ?_)
    · replace h := (if_pos c_11).symm.trans h
      refine lv_iconst (v := 0) hx hb dX2_setCut_62 (by decide) ?_
      obtain ⟨rfl, rfl⟩ := ret2 h
      exact hret H locs _ ls hI dX2_setCut_63
    · replace h := (if_neg c_11).symm.trans h
      refine lv_iconst (v := 1) hx hb dX2_setCut_58 (by decide) ?_
      refine lv_goto (tgt := 63) hx hb dX2_setCut_59 (by decide) ?_
      obtain ⟨rfl, rfl⟩ := ret2 h
      exact hret H locs _ ls hI dX2_setCut_63
theorem hv_X2_setCut : yX2_setCut.cls = RX2 ∧ yX2_setCut.cls ≠ "java/lang/invoke/MethodHandle" ∧ yX2_setCut.cls ≠ "java/lang/invoke/VarHandle" ∧ (parseMethodDescriptor yX2_setCut.desc).map (fun d => d.parameters.length) = some 3 := by decide +kernel
/-! J6_bitCount_0f7a4 -/
def rmJ6_bitCount_0f7a4 : Room := { frames := 0, cells := 0, slots := 0, locals := 0 }
def f_J6_bitCount_0f7a4 (x0 : Int32) : Int32 := bnd (x0 - ((ush x0 1) &&& (1431655765 : Int32))) fun v_1 => bnd ((v_1 &&& (858993459 : Int32)) + ((ush v_1 2) &&& (858993459 : Int32))) fun v_2 => bnd ((v_2 + (ush v_2 4)) &&& (252645135 : Int32)) fun v_3 => bnd (v_3 + (ush v_3 8)) fun v_4 => bnd (v_4 + (ush v_4 16)) fun v_5 => v_5 &&& (63 : Int32)
set_option maxHeartbeats 4000000 in
set_option maxRecDepth 100000 in
theorem c_J6_bitCount_0f7a4 (l : Launch) (x0 : Int32) : MetS l yJ6_bitCount_0f7a4 wsJ6_bitCount_0f7a4 rmJ6_bitCount_0f7a4 [.int x0] (f_J6_bitCount_0f7a4 x0) := by
  refine metS_ofF (cc := cJ6_bitCount_0f7a4) (nL := 1) (ty := .int) (by decide) rfl (Nat.le_of_ble_eq_true rfl) rfl ?_
  intro p e s m below meth c Q C hret ls hl
  have C : CallFix p m c cJ6_bitCount_0f7a4 1 s _ wsJ6_bitCount_0f7a4 RJ6 := C
  obtain ⟨hx, hb, hml, hown, hts⟩ := id C
  have hl : lv_has ls 1 [(0, .int x0)] := hl
  have lc265 := hts (.constant RJ6 265 (1431655765)) (by decide +kernel)
  have lc266 := hts (.constant RJ6 266 (858993459)) (by decide +kernel)
  have lc267 := hts (.constant RJ6 267 (252645135)) (by decide +kernel)
  generalize hgen : f_J6_bitCount_0f7a4 x0 = r at hret
  have h := hgen
  rw [f_J6_bitCount_0f7a4] at h
  refine lv_iload_n hx hb dJ6_bitCount_0f7a4_0 rfl (lv_at hl 0 rfl) ?_
  refine lv_iload_n hx hb dJ6_bitCount_0f7a4_1 rfl (lv_at hl 0 rfl) ?_
  refine lv_iconst (v := 1) hx hb dJ6_bitCount_0f7a4_2 (by decide) ?_
  refine lv_iushr (v := ush x0 1) hx hb dJ6_bitCount_0f7a4_3 rfl ?_
  refine lv_ldcw (v := 1431655765) hx hb hown lc265 dJ6_bitCount_0f7a4_4 ?_
  refine lv_iand hx hb dJ6_bitCount_0f7a4_7 ?_
  refine lv_isub hx hb dJ6_bitCount_0f7a4_8 ?_
  refine gen_i h (fun v_1 h => ?_)
  refine lv_istore_n (lv' := [(0, .int v_1)]) hx hb dJ6_bitCount_0f7a4_9 rfl hl (by decide) rfl (fun ls hl => ?_)
  refine lv_iload_n hx hb dJ6_bitCount_0f7a4_10 rfl (lv_at hl 0 rfl) ?_
  refine lv_ldcw (v := 858993459) hx hb hown lc266 dJ6_bitCount_0f7a4_11 ?_
  refine lv_iand hx hb dJ6_bitCount_0f7a4_14 ?_
  refine lv_iload_n hx hb dJ6_bitCount_0f7a4_15 rfl (lv_at hl 0 rfl) ?_
  refine lv_iconst (v := 2) hx hb dJ6_bitCount_0f7a4_16 (by decide) ?_
  refine lv_iushr (v := ush v_1 2) hx hb dJ6_bitCount_0f7a4_17 rfl ?_
  refine lv_ldcw (v := 858993459) hx hb hown lc266 dJ6_bitCount_0f7a4_18 ?_
  refine lv_iand hx hb dJ6_bitCount_0f7a4_21 ?_
  refine lv_iadd hx hb dJ6_bitCount_0f7a4_22 ?_
  refine gen_i h (fun v_2 h => ?_)
  refine lv_istore_n (lv' := [(0, .int v_2)]) hx hb dJ6_bitCount_0f7a4_23 rfl hl (by decide) rfl (fun ls hl => ?_)
  refine lv_iload_n hx hb dJ6_bitCount_0f7a4_24 rfl (lv_at hl 0 rfl) ?_
  refine lv_iload_n hx hb dJ6_bitCount_0f7a4_25 rfl (lv_at hl 0 rfl) ?_
  refine lv_iconst (v := 4) hx hb dJ6_bitCount_0f7a4_26 (by decide) ?_
  refine lv_iushr (v := ush v_2 4) hx hb dJ6_bitCount_0f7a4_27 rfl ?_
  refine lv_iadd hx hb dJ6_bitCount_0f7a4_28 ?_
  refine lv_ldcw (v := 252645135) hx hb hown lc267 dJ6_bitCount_0f7a4_29 ?_
  refine lv_iand hx hb dJ6_bitCount_0f7a4_32 ?_
  refine gen_i h (fun v_3 h => ?_)
  refine lv_istore_n (lv' := [(0, .int v_3)]) hx hb dJ6_bitCount_0f7a4_33 rfl hl (by decide) rfl (fun ls hl => ?_)
  refine lv_iload_n hx hb dJ6_bitCount_0f7a4_34 rfl (lv_at hl 0 rfl) ?_
  refine lv_iload_n hx hb dJ6_bitCount_0f7a4_35 rfl (lv_at hl 0 rfl) ?_
  refine lv_bipush (v := 8) hx hb dJ6_bitCount_0f7a4_36 (by decide) ?_
  refine lv_iushr (v := ush v_3 8) hx hb dJ6_bitCount_0f7a4_38 rfl ?_
  refine lv_iadd hx hb dJ6_bitCount_0f7a4_39 ?_
  refine gen_i h (fun v_4 h => ?_)
  refine lv_istore_n (lv' := [(0, .int v_4)]) hx hb dJ6_bitCount_0f7a4_40 rfl hl (by decide) rfl (fun ls hl => ?_)
  refine lv_iload_n hx hb dJ6_bitCount_0f7a4_41 rfl (lv_at hl 0 rfl) ?_
  refine lv_iload_n hx hb dJ6_bitCount_0f7a4_42 rfl (lv_at hl 0 rfl) ?_
  refine lv_bipush (v := 16) hx hb dJ6_bitCount_0f7a4_43 (by decide) ?_
  refine lv_iushr (v := ush v_4 16) hx hb dJ6_bitCount_0f7a4_45 rfl ?_
  refine lv_iadd hx hb dJ6_bitCount_0f7a4_46 ?_
  refine gen_i h (fun v_5 h => ?_)
  refine lv_istore_n (lv' := [(0, .int v_5)]) hx hb dJ6_bitCount_0f7a4_47 rfl hl (by decide) rfl (fun ls hl => ?_)
  refine lv_iload_n hx hb dJ6_bitCount_0f7a4_48 rfl (lv_at hl 0 rfl) ?_
  refine lv_bipush (v := 63) hx hb dJ6_bitCount_0f7a4_49 (by decide) ?_
  refine lv_iand hx hb dJ6_bitCount_0f7a4_51 ?_
  subst h
  exact hret _ ls dJ6_bitCount_0f7a4_52
theorem hd_J6_bitCount_0f7a4 : yJ6_bitCount_0f7a4.cls ≠ "java/lang/invoke/MethodHandle" ∧ yJ6_bitCount_0f7a4.cls ≠ "java/lang/invoke/VarHandle" ∧ (parseMethodDescriptor yJ6_bitCount_0f7a4.desc).map (fun d => d.parameters.length) = some 1 := by decide +kernel
/-! X2_countCuts -/
def rmX2_countCuts : Room := { frames := 1, cells := 0, slots := 0, locals := 20 }
def f_X2_countCuts_L4 (N : Nat) (st : St) (k : Int32 → Int32 → Option (Int32)) : Nat → Int32 → Int32 → Option (Int32)
  | 0, _, _ => none
  | n + 1, x1, x2 => if st 13 0 ≤ x2 then k x1 x2 else ck 10 x2 fun j_2 => bnd (f_J6_bitCount_0f7a4 (st 6 j_2)) fun r_3 => bnd (x1 + r_3) fun v_4 => f_X2_countCuts_L4 N st k n v_4 (x2 + 1)
def f_X2_countCuts (N : Nat) (st : St) : Option (Int32) := f_X2_countCuts_L4 N st (fun a_5 a_6 => some a_5) N 0 0
set_option maxHeartbeats 4000000 in
set_option maxRecDepth 100000 in
theorem wl_X2_countCuts_L4 {p : Program} {l : Launch} {e : Env} {s : State} {m : MethodId} {args : Array Value} {below : List Frame} {meth : Method} {c : Code} {Q : State → Prop} {A : Nat → Prop} {g : GP} {Y : va_W} {ad : Nat → Nat} {r : Int32}  (C : Cx p s m args c cX2_countCuts 3 wsX2_countCuts RX2 g A) (st : St) (hret : RetI p l e rmX2_countCuts s m args below meth c Q cX2_countCuts g A (wCX g Y ad st) (r)) (N : Nat)  (k : Int32 → Int32 → Option (Int32)) (hk : ∀ (x1 : Int32) (x2 : Int32) (H : Heap) (locs : List Loc) (ls : Array Slot), k x1 x2 = some r → IW g A s.heap (wCX g Y ad st) H locs → lv_has ls 3 [(0, .ref (ad 1)), (1, .int x1), (2, .int x2)] → W p l e rmX2_countCuts s m args below meth c H locs 0 0 Q (F0 m 33 ls [])) : ∀ (n : Nat) (x1 : Int32) (x2 : Int32) (H : Heap) (locs : List Loc) (ls : Array Slot), f_X2_countCuts_L4 N st k n x1 x2 = some r → IW g A s.heap (wCX g Y ad st) H locs → lv_has ls 3 [(0, .ref (ad 1)), (1, .int x1), (2, .int x2)] → W p l e rmX2_countCuts s m args below meth c H locs 0 0 Q (F0 m 4 ls []) := by
  obtain ⟨hx, hb, hml, hown, hts⟩ := id C.1
  have hinRX2 : ∀ w ∈ u_ws RX2 TX2 7, w ∈ wsX2_countCuts := by decide +kernel
  have lk41 := hts (.fieldLink RX2 41 "GraveRows$Ground" "size" "I") (by decide +kernel)
  have lk11 := hts (.fieldLink RX2 11 "GraveRows$Ground" "graves" "[LGraveRows$Grave;") (by decide +kernel)
  have hinRX1 : ∀ w ∈ u_ws RX1 TX1 9, w ∈ wsX2_countCuts := by decide +kernel
  have lk52 := hts (.fieldLink RX2 52 "GraveRows$Grave" "cuts" "I") (by decide +kernel)
  intro n
  induction n with
  | zero =>
    intro x1 x2 H locs ls h hI hl
    rw [f_X2_countCuts_L4] at h
    cases h
  | succ n ih =>
    intro x1 x2 H locs ls h hI hl
    rw [f_X2_countCuts_L4] at h
    refine lv_iload_n hx hb dX2_countCuts_4 rfl (lv_at hl 2 rfl) ?_
    refine lv_aload_n hx hb dX2_countCuts_5 rfl (lv_at hl 0 rfl) ?_
    refine w_get (v := .int (st 13 0)) C hinRX2 hI 1 at_G0 rfl 5 (by decide) lk41 rfl rfl dX2_countCuts_6 ?_
    refine lv_icmp_ge (tgt := 33) hx hb dX2_countCuts_9 (by decide) (fun c_1 => ?_) (fun c_1 => ?_)
    · replace h := (if_pos c_1).symm.trans h
      exact hk _ _ _ _ _ h hI (lv_sub hl [0, 1, 2] rfl)
    · replace h := (if_neg c_1).symm.trans h
      refine lv_iload_n hx hb dX2_countCuts_12 rfl (lv_at hl 1 rfl) ?_
      refine lv_aload_n hx hb dX2_countCuts_13 rfl (lv_at hl 0 rfl) ?_
      refine w_get (v := .ref (ad 2)) C hinRX2 hI 1 at_G0 rfl 0 (by decide) lk11 rfl rfl dX2_countCuts_14 ?_
      refine lv_iload_n hx hb dX2_countCuts_17 rfl (lv_at hl 2 rfl) ?_
      refine w_ald (t0 := 2) (fa := fun j => ad (7 + j)) C hI 2 ra_2 rfl (fun _ => rfl) h dX2_countCuts_18 (fun j_2 hj_2 h => ?_)
      refine w_get (v := .int (st 6 j_2)) C hinRX1 hI (7 + j_2) (at_V0 hj_2) rfl 6 (by decide) lk52 rfl rfl dX2_countCuts_19 ?_
      refine callS_S (rest := [.int x1]) C.1 (c_J6_bitCount_0f7a4 l (st 6 j_2)) (va_cwS 1 hts gX2_countCuts_J6_bitCount_0f7a4 rfl rfl rfl hd_J6_bitCount_0f7a4 ⟨Nat.le_of_ble_eq_true rfl, Nat.le_of_ble_eq_true rfl⟩) rfl hl.1 rfl (Nat.le_of_ble_eq_true rfl) dX2_countCuts_22 ?_
      refine gen_i h (fun r_3 h => ?_)
      refine lv_iadd hx hb dX2_countCuts_25 ?_
      refine gen_i h (fun v_4 h => ?_)
      refine lv_istore_n (lv' := [(1, .int v_4), (0, .ref (ad 1)), (2, .int x2)]) hx hb dX2_countCuts_26 rfl hl (by decide) rfl (fun ls hl => ?_)
      refine lv_iinc (v := x2 + 1) (lv' := [(2, .int (x2 + 1)), (1, .int v_4), (0, .ref (ad 1))]) hx hb dX2_countCuts_27 hl (k := 2) rfl rfl (by decide) rfl (fun ls hl => ?_)
      refine lv_goto (tgt := 4) hx hb dX2_countCuts_30 (by decide) ?_
      exact ih _ _ _ _ _ h hI (lv_sub hl [2, 1, 0] rfl)
set_option maxHeartbeats 4000000 in
set_option maxRecDepth 100000 in
theorem c_X2_countCuts (l : Launch) (g : GP) (Y : va_W) (ad : Nat → Nat) (N : Nat)  (st : St) {r : Int32}  (h : f_X2_countCuts N st = some r) : MetI l yX2_countCuts wsX2_countCuts rmX2_countCuts g (wCX g Y ad) [.ref (ad 1)] st (r) st := by
  refine metI_of (cc := cX2_countCuts) (nL := 3) (ty := .int) (by decide) rfl (Nat.le_of_ble_eq_true rfl) rfl ?_
  intro p e s m below meth c Q A C hret H locs hI ls hl
  have C : Cx p s m _ c cX2_countCuts 3 wsX2_countCuts RX2 g A := C
  obtain ⟨hx, hb, hml, hown, hts⟩ := id C.1
  have hl : lv_has ls 3 [(0, .ref (ad 1))] := hl
  rw [f_X2_countCuts] at h
  refine lv_iconst (v := 0) hx hb dX2_countCuts_0 (by decide) ?_
  refine lv_istore_n (lv' := [(1, .int 0), (0, .ref (ad 1))]) hx hb dX2_countCuts_1 rfl hl (by decide) rfl (fun ls hl => ?_)
  refine lv_iconst (v := 0) hx hb dX2_countCuts_2 (by decide) ?_
  refine lv_istore_n (lv' := [(2, .int 0), (1, .int 0), (0, .ref (ad 1))]) hx hb dX2_countCuts_3 rfl hl (by decide) rfl (fun ls hl => ?_)
  refine wl_X2_countCuts_L4 C st hret N _ (fun a_5 a_6 H locs ls h hI hl => ?_) N 0 0 H locs ls h hI (lv_sub hl [2, 1, 0] rfl)
  refine lv_iload_n hx hb dX2_countCuts_33 rfl (lv_at hl 1 rfl) ?_
  obtain rfl := ret1 h
  exact hret H locs _ ls hI dX2_countCuts_34
theorem hv_X2_countCuts : yX2_countCuts.cls = RX2 ∧ yX2_countCuts.cls ≠ "java/lang/invoke/MethodHandle" ∧ yX2_countCuts.cls ≠ "java/lang/invoke/VarHandle" ∧ (parseMethodDescriptor yX2_countCuts.desc).map (fun d => d.parameters.length) = some 0 := by decide +kernel
/-! X2_cuttersOf -/
def rmX2_cuttersOf : Room := { frames := 1, cells := 0, slots := 0, locals := 21 }
def f_X2_cuttersOf_L4 (N : Nat) (x1 : Int32) (st : St) (k : Int32 → Int32 → Option (Int32)) : Nat → Int32 → Int32 → Option (Int32)
  | 0, _, _ => none
  | n + 1, x2, x3 => if st 13 0 ≤ x3 then k x2 x3 else ck 10 x3 fun j_2 => bnd (f_X5_isIn (st 6 j_2) x1) fun r_3 => if b2i r_3 = 0 then f_X2_cuttersOf_L4 N x1 st k n x2 (x3 + 1) else bnd (x2 ||| ((1 : Int32) <<< (x3 &&& 31))) fun v_5 => f_X2_cuttersOf_L4 N x1 st k n v_5 (x3 + 1)
def f_X2_cuttersOf (N : Nat) (st : St) (x1 : Int32) : Option (Int32) := f_X2_cuttersOf_L4 N x1 st (fun a_6 a_7 => some a_6) N 0 0
set_option maxHeartbeats 4000000 in
set_option maxRecDepth 100000 in
theorem wl_X2_cuttersOf_L4 {p : Program} {l : Launch} {e : Env} {s : State} {m : MethodId} {args : Array Value} {below : List Frame} {meth : Method} {c : Code} {Q : State → Prop} {A : Nat → Prop} {g : GP} {Y : va_W} {ad : Nat → Nat} {r : Int32}  (C : Cx p s m args c cX2_cuttersOf 4 wsX2_cuttersOf RX2 g A) (st : St) (hret : RetI p l e rmX2_cuttersOf s m args below meth c Q cX2_cuttersOf g A (wCX g Y ad st) (r)) (N : Nat) (x1 : Int32)  (k : Int32 → Int32 → Option (Int32)) (hk : ∀ (x2 : Int32) (x3 : Int32) (H : Heap) (locs : List Loc) (ls : Array Slot), k x2 x3 = some r → IW g A s.heap (wCX g Y ad st) H locs → lv_has ls 4 [(0, .ref (ad 1)), (1, .int x1), (2, .int x2), (3, .int x3)] → W p l e rmX2_cuttersOf s m args below meth c H locs 0 0 Q (F0 m 40 ls [])) : ∀ (n : Nat) (x2 : Int32) (x3 : Int32) (H : Heap) (locs : List Loc) (ls : Array Slot), f_X2_cuttersOf_L4 N x1 st k n x2 x3 = some r → IW g A s.heap (wCX g Y ad st) H locs → lv_has ls 4 [(0, .ref (ad 1)), (1, .int x1), (2, .int x2), (3, .int x3)] → W p l e rmX2_cuttersOf s m args below meth c H locs 0 0 Q (F0 m 4 ls []) := by
  obtain ⟨hx, hb, hml, hown, hts⟩ := id C.1
  have hinRX2 : ∀ w ∈ u_ws RX2 TX2 7, w ∈ wsX2_cuttersOf := by decide +kernel
  have lk41 := hts (.fieldLink RX2 41 "GraveRows$Ground" "size" "I") (by decide +kernel)
  have lk11 := hts (.fieldLink RX2 11 "GraveRows$Ground" "graves" "[LGraveRows$Grave;") (by decide +kernel)
  have hinRX1 : ∀ w ∈ u_ws RX1 TX1 9, w ∈ wsX2_cuttersOf := by decide +kernel
  have lk52 := hts (.fieldLink RX2 52 "GraveRows$Grave" "cuts" "I") (by decide +kernel)
  have iniRX5 := hts (.initialized RX5) (by decide +kernel)
  have staX5_isIn := hts (.static yX5_isIn) (by decide +kernel)
  intro n
  induction n with
  | zero =>
    intro x2 x3 H locs ls h hI hl
    rw [f_X2_cuttersOf_L4] at h
    cases h
  | succ n ih =>
    intro x2 x3 H locs ls h hI hl
    rw [f_X2_cuttersOf_L4] at h
    refine lv_iload_n hx hb dX2_cuttersOf_4 rfl (lv_at hl 3 rfl) ?_
    refine lv_aload_n hx hb dX2_cuttersOf_5 rfl (lv_at hl 0 rfl) ?_
    refine w_get (v := .int (st 13 0)) C hinRX2 hI 1 at_G0 rfl 5 (by decide) lk41 rfl rfl dX2_cuttersOf_6 ?_
    refine lv_icmp_ge (tgt := 40) hx hb dX2_cuttersOf_9 (by decide) (fun c_1 => ?_) (fun c_1 => ?_)
    · replace h := (if_pos c_1).symm.trans h
      exact hk _ _ _ _ _ h hI (lv_sub hl [0, 1, 2, 3] rfl)
    · replace h := (if_neg c_1).symm.trans h
      refine lv_aload_n hx hb dX2_cuttersOf_12 rfl (lv_at hl 0 rfl) ?_
      refine w_get (v := .ref (ad 2)) C hinRX2 hI 1 at_G0 rfl 0 (by decide) lk11 rfl rfl dX2_cuttersOf_13 ?_
      refine lv_iload_n hx hb dX2_cuttersOf_16 rfl (lv_at hl 3 rfl) ?_
      refine w_ald (t0 := 2) (fa := fun j => ad (7 + j)) C hI 2 ra_2 rfl (fun _ => rfl) h dX2_cuttersOf_17 (fun j_2 hj_2 h => ?_)
      refine w_get (v := .int (st 6 j_2)) C hinRX1 hI (7 + j_2) (at_V0 hj_2) rfl 6 (by decide) lk52 rfl rfl dX2_cuttersOf_18 ?_
      refine lv_iload_n hx hb dX2_cuttersOf_21 rfl (lv_at hl 1 rfl) ?_
      refine callN_S (rest := []) C.1 (c_X5_isIn l (st 6 j_2) x1) ⟨va_cnB 2 hts gX2_cuttersOf_X5_isIn_n61 rfl rfl rfl C.2.2.1 iniRX5 hd_X5_isIn ⟨Nat.le_of_ble_eq_true rfl, Nat.le_of_ble_eq_true rfl⟩, staX5_isIn, trivial⟩ rfl hl.1 rfl (Nat.le_of_ble_eq_true rfl) dX2_cuttersOf_22 ?_
      refine gen_b h (fun r_3 h => ?_)
      refine lv_if_eq (tgt := 34) hx hb dX2_cuttersOf_25 (by decide) (fun c_4 => ?_) (fun c_4 => ?_)
      · replace h := (if_pos c_4).symm.trans h
        refine lv_iinc (v := x3 + 1) (lv' := [(3, .int (x3 + 1)), (0, .ref (ad 1)), (1, .int x1), (2, .int x2)]) hx hb dX2_cuttersOf_34 hl (k := 3) rfl rfl (by decide) rfl (fun ls hl => ?_)
        refine lv_goto (tgt := 4) hx hb dX2_cuttersOf_37 (by decide) ?_
        exact ih _ _ _ _ _ h hI (lv_sub hl [1, 2, 3, 0] rfl)
      · replace h := (if_neg c_4).symm.trans h
        refine lv_iload_n hx hb dX2_cuttersOf_28 rfl (lv_at hl 2 rfl) ?_
        refine lv_iconst (v := 1) hx hb dX2_cuttersOf_29 (by decide) ?_
        refine lv_iload_n hx hb dX2_cuttersOf_30 rfl (lv_at hl 3 rfl) ?_
        refine lv_ishl hx hb dX2_cuttersOf_31 ?_
        refine lv_ior hx hb dX2_cuttersOf_32 ?_
        refine gen_i h (fun v_5 h => ?_)
        refine lv_istore_n (lv' := [(2, .int v_5), (0, .ref (ad 1)), (1, .int x1), (3, .int x3)]) hx hb dX2_cuttersOf_33 rfl hl (by decide) rfl (fun ls hl => ?_)
        refine lv_iinc (v := x3 + 1) (lv' := [(3, .int (x3 + 1)), (2, .int v_5), (0, .ref (ad 1)), (1, .int x1)]) hx hb dX2_cuttersOf_34 hl (k := 3) rfl rfl (by decide) rfl (fun ls hl => ?_)
        refine lv_goto (tgt := 4) hx hb dX2_cuttersOf_37 (by decide) ?_
        exact ih _ _ _ _ _ h hI (lv_sub hl [2, 3, 1, 0] rfl)
set_option maxHeartbeats 4000000 in
set_option maxRecDepth 100000 in
theorem c_X2_cuttersOf (l : Launch) (g : GP) (Y : va_W) (ad : Nat → Nat) (N : Nat) (x1 : Int32)  (st : St) {r : Int32}  (h : f_X2_cuttersOf N st x1 = some r) : MetI l yX2_cuttersOf wsX2_cuttersOf rmX2_cuttersOf g (wCX g Y ad) [.ref (ad 1), .int x1] st (r) st := by
  refine metI_of (cc := cX2_cuttersOf) (nL := 4) (ty := .int) (by decide) rfl (Nat.le_of_ble_eq_true rfl) rfl ?_
  intro p e s m below meth c Q A C hret H locs hI ls hl
  have C : Cx p s m _ c cX2_cuttersOf 4 wsX2_cuttersOf RX2 g A := C
  obtain ⟨hx, hb, hml, hown, hts⟩ := id C.1
  have hl : lv_has ls 4 [(0, .ref (ad 1)), (1, .int x1)] := hl
  rw [f_X2_cuttersOf] at h
  refine lv_iconst (v := 0) hx hb dX2_cuttersOf_0 (by decide) ?_
  refine lv_istore_n (lv' := [(2, .int 0), (0, .ref (ad 1)), (1, .int x1)]) hx hb dX2_cuttersOf_1 rfl hl (by decide) rfl (fun ls hl => ?_)
  refine lv_iconst (v := 0) hx hb dX2_cuttersOf_2 (by decide) ?_
  refine lv_istore_n (lv' := [(3, .int 0), (2, .int 0), (0, .ref (ad 1)), (1, .int x1)]) hx hb dX2_cuttersOf_3 rfl hl (by decide) rfl (fun ls hl => ?_)
  refine wl_X2_cuttersOf_L4 C st hret N x1 _ (fun a_6 a_7 H locs ls h hI hl => ?_) N 0 0 H locs ls h hI (lv_sub hl [2, 3, 1, 0] rfl)
  refine lv_iload_n hx hb dX2_cuttersOf_40 rfl (lv_at hl 2 rfl) ?_
  obtain rfl := ret1 h
  exact hret H locs _ ls hI dX2_cuttersOf_41
theorem hv_X2_cuttersOf : yX2_cuttersOf.cls = RX2 ∧ yX2_cuttersOf.cls ≠ "java/lang/invoke/MethodHandle" ∧ yX2_cuttersOf.cls ≠ "java/lang/invoke/VarHandle" ∧ (parseMethodDescriptor yX2_cuttersOf.desc).map (fun d => d.parameters.length) = some 1 := by decide +kernel
/-! X2_reachedFrom -/
def rmX2_reachedFrom : Room := { frames := 1, cells := 0, slots := 0, locals := 21 }
def f_X2_reachedFrom_L18 (N : Nat) (x3 : Int32) (x4 : Int32) (st : St) (k : Int32 → Int32 → Option (Int32)) : Nat → Int32 → Int32 → Option (Int32)
  | 0, _, _ => none
  | n + 1, x2, x5 => if st 13 0 ≤ x5 then k x2 x5 else bnd (f_X5_isIn x2 x5) fun r_3 => if b2i r_3 = 0 then f_X2_reachedFrom_L18 N x3 x4 st k n x2 (x5 + 1) else ck 10 x5 fun j_5 => bnd (x2 ||| (st 12 j_5)) fun v_6 => f_X2_reachedFrom_L18 N x3 x4 st k n v_6 (x5 + 1)
def f_X2_reachedFrom_L4 (N : Nat) (st : St) (k : Int32 → Int32 → Option (Int32)) : Nat → Int32 → Int32 → Option (Int32)
  | 0, _, _ => none
  | n + 1, x2, x3 => if st 13 0 ≤ x3 then k x2 x3 else f_X2_reachedFrom_L18 N x3 x2 st (fun a_7 a_8 => if a_7 = x2 then k a_7 x3 else f_X2_reachedFrom_L4 N st k n a_7 (x3 + 1)) N x2 0
def f_X2_reachedFrom (N : Nat) (st : St) (x1 : Int32) : Option (Int32) := f_X2_reachedFrom_L4 N st (fun a_10 a_11 => some a_10) N x1 0
set_option maxHeartbeats 4000000 in
set_option maxRecDepth 100000 in
theorem wl_X2_reachedFrom_L18 {p : Program} {l : Launch} {e : Env} {s : State} {m : MethodId} {args : Array Value} {below : List Frame} {meth : Method} {c : Code} {Q : State → Prop} {A : Nat → Prop} {g : GP} {Y : va_W} {ad : Nat → Nat} {r : Int32}  (C : Cx p s m args c cX2_reachedFrom 6 wsX2_reachedFrom RX2 g A) (st : St) (hret : RetI p l e rmX2_reachedFrom s m args below meth c Q cX2_reachedFrom g A (wCX g Y ad st) (r)) (N : Nat) (x3 : Int32) (x4 : Int32)  (k : Int32 → Int32 → Option (Int32)) (hk : ∀ (x2 : Int32) (x5 : Int32) (H : Heap) (locs : List Loc) (ls : Array Slot), k x2 x5 = some r → IW g A s.heap (wCX g Y ad st) H locs → lv_has ls 6 [(0, .ref (ad 1)), (2, .int x2), (3, .int x3), (4, .int x4), (5, .int x5)] → W p l e rmX2_reachedFrom s m args below meth c H locs 0 0 Q (F0 m 52 ls [])) : ∀ (n : Nat) (x2 : Int32) (x5 : Int32) (H : Heap) (locs : List Loc) (ls : Array Slot), f_X2_reachedFrom_L18 N x3 x4 st k n x2 x5 = some r → IW g A s.heap (wCX g Y ad st) H locs → lv_has ls 6 [(0, .ref (ad 1)), (2, .int x2), (3, .int x3), (4, .int x4), (5, .int x5)] → W p l e rmX2_reachedFrom s m args below meth c H locs 0 0 Q (F0 m 18 ls []) := by
  obtain ⟨hx, hb, hml, hown, hts⟩ := id C.1
  have hinRX2 : ∀ w ∈ u_ws RX2 TX2 7, w ∈ wsX2_reachedFrom := by decide +kernel
  have lk41 := hts (.fieldLink RX2 41 "GraveRows$Ground" "size" "I") (by decide +kernel)
  have iniRX5 := hts (.initialized RX5) (by decide +kernel)
  have staX5_isIn := hts (.static yX5_isIn) (by decide +kernel)
  have lk27 := hts (.fieldLink RX2 27 "GraveRows$Ground" "steps" "[I") (by decide +kernel)
  intro n
  induction n with
  | zero =>
    intro x2 x5 H locs ls h hI hl
    rw [f_X2_reachedFrom_L18] at h
    cases h
  | succ n ih =>
    intro x2 x5 H locs ls h hI hl
    rw [f_X2_reachedFrom_L18] at h
    refine lv_iload hx hb dX2_reachedFrom_18 (lv_at hl 4 rfl) ?_
    refine lv_aload_n hx hb dX2_reachedFrom_20 rfl (lv_at hl 0 rfl) ?_
    refine w_get (v := .int (st 13 0)) C hinRX2 hI 1 at_G0 rfl 5 (by decide) lk41 rfl rfl dX2_reachedFrom_21 ?_
    refine lv_icmp_ge (tgt := 52) hx hb dX2_reachedFrom_24 (by decide) (fun c_2 => ?_) (fun c_2 => ?_)
    · replace h := (if_pos c_2).symm.trans h
      exact hk _ _ _ _ _ h hI (lv_sub hl [0, 1, 2, 3, 4] rfl)
    · replace h := (if_neg c_2).symm.trans h
      refine lv_iload_n hx hb dX2_reachedFrom_27 rfl (lv_at hl 1 rfl) ?_
      refine lv_iload hx hb dX2_reachedFrom_28 (lv_at hl 4 rfl) ?_
      refine callN_S (rest := []) C.1 (c_X5_isIn l x2 x5) ⟨va_cnB 2 hts gX2_reachedFrom_X5_isIn_n61 rfl rfl rfl C.2.2.1 iniRX5 hd_X5_isIn ⟨Nat.le_of_ble_eq_true rfl, Nat.le_of_ble_eq_true rfl⟩, staX5_isIn, trivial⟩ rfl hl.1 rfl (Nat.le_of_ble_eq_true rfl) dX2_reachedFrom_30 ?_
      refine gen_b h (fun r_3 h => ?_)
      refine lv_if_eq (tgt := 46) hx hb dX2_reachedFrom_33 (by decide) (fun c_4 => ?_) (fun c_4 => ?_)
      · replace h := (if_pos c_4).symm.trans h
        refine lv_iinc (v := x5 + 1) (lv' := [(5, .int (x5 + 1)), (0, .ref (ad 1)), (2, .int x2), (3, .int x3), (4, .int x4)]) hx hb dX2_reachedFrom_46 hl (k := 4) rfl rfl (by decide) rfl (fun ls hl => ?_)
        refine lv_goto (tgt := 18) hx hb dX2_reachedFrom_49 (by decide) ?_
        exact ih _ _ _ _ _ h hI (lv_sub hl [1, 2, 3, 4, 0] rfl)
      · replace h := (if_neg c_4).symm.trans h
        refine lv_iload_n hx hb dX2_reachedFrom_36 rfl (lv_at hl 1 rfl) ?_
        refine lv_aload_n hx hb dX2_reachedFrom_37 rfl (lv_at hl 0 rfl) ?_
        refine w_get (v := .ref (ad 6)) C hinRX2 hI 1 at_G0 rfl 4 (by decide) lk27 rfl rfl dX2_reachedFrom_38 ?_
        refine lv_iload hx hb dX2_reachedFrom_41 (lv_at hl 4 rfl) ?_
        refine w_ld C hI 6 ar_6 h dX2_reachedFrom_43 (fun j_5 hj_5 h => ?_)
        refine lv_ior hx hb dX2_reachedFrom_44 ?_
        refine gen_i h (fun v_6 h => ?_)
        refine lv_istore_n (lv' := [(2, .int v_6), (0, .ref (ad 1)), (3, .int x3), (4, .int x4), (5, .int x5)]) hx hb dX2_reachedFrom_45 rfl hl (by decide) rfl (fun ls hl => ?_)
        refine lv_iinc (v := x5 + 1) (lv' := [(5, .int (x5 + 1)), (2, .int v_6), (0, .ref (ad 1)), (3, .int x3), (4, .int x4)]) hx hb dX2_reachedFrom_46 hl (k := 4) rfl rfl (by decide) rfl (fun ls hl => ?_)
        refine lv_goto (tgt := 18) hx hb dX2_reachedFrom_49 (by decide) ?_
        exact ih _ _ _ _ _ h hI (lv_sub hl [2, 1, 3, 4, 0] rfl)
set_option maxHeartbeats 4000000 in
set_option maxRecDepth 100000 in
theorem wl_X2_reachedFrom_L4 {p : Program} {l : Launch} {e : Env} {s : State} {m : MethodId} {args : Array Value} {below : List Frame} {meth : Method} {c : Code} {Q : State → Prop} {A : Nat → Prop} {g : GP} {Y : va_W} {ad : Nat → Nat} {r : Int32}  (C : Cx p s m args c cX2_reachedFrom 6 wsX2_reachedFrom RX2 g A) (st : St) (hret : RetI p l e rmX2_reachedFrom s m args below meth c Q cX2_reachedFrom g A (wCX g Y ad st) (r)) (N : Nat)  (k : Int32 → Int32 → Option (Int32)) (hk : ∀ (x2 : Int32) (x3 : Int32) (H : Heap) (locs : List Loc) (ls : Array Slot), k x2 x3 = some r → IW g A s.heap (wCX g Y ad st) H locs → lv_has ls 6 [(0, .ref (ad 1)), (2, .int x2), (3, .int x3)] → W p l e rmX2_reachedFrom s m args below meth c H locs 0 0 Q (F0 m 67 ls [])) : ∀ (n : Nat) (x2 : Int32) (x3 : Int32) (H : Heap) (locs : List Loc) (ls : Array Slot), f_X2_reachedFrom_L4 N st k n x2 x3 = some r → IW g A s.heap (wCX g Y ad st) H locs → lv_has ls 6 [(0, .ref (ad 1)), (2, .int x2), (3, .int x3)] → W p l e rmX2_reachedFrom s m args below meth c H locs 0 0 Q (F0 m 4 ls []) := by
  obtain ⟨hx, hb, hml, hown, hts⟩ := id C.1
  have hinRX2 : ∀ w ∈ u_ws RX2 TX2 7, w ∈ wsX2_reachedFrom := by decide +kernel
  have lk41 := hts (.fieldLink RX2 41 "GraveRows$Ground" "size" "I") (by decide +kernel)
  intro n
  induction n with
  | zero =>
    intro x2 x3 H locs ls h hI hl
    rw [f_X2_reachedFrom_L4] at h
    cases h
  | succ n ih =>
    intro x2 x3 H locs ls h hI hl
    rw [f_X2_reachedFrom_L4] at h
    refine lv_iload_n hx hb dX2_reachedFrom_4 rfl (lv_at hl 2 rfl) ?_
    refine lv_aload_n hx hb dX2_reachedFrom_5 rfl (lv_at hl 0 rfl) ?_
    refine w_get (v := .int (st 13 0)) C hinRX2 hI 1 at_G0 rfl 5 (by decide) lk41 rfl rfl dX2_reachedFrom_6 ?_
    refine lv_icmp_ge (tgt := 67) hx hb dX2_reachedFrom_9 (by decide) (fun c_1 => ?_) (fun c_1 => ?_)
    · replace h := (if_pos c_1).symm.trans h
      exact hk _ _ _ _ _ h hI (lv_sub hl [0, 1, 2] rfl)
    · replace h := (if_neg c_1).symm.trans h
      refine lv_iload_n hx hb dX2_reachedFrom_12 rfl (lv_at hl 1 rfl) ?_
      refine lv_istore (lv' := [(4, .int x2), (0, .ref (ad 1)), (2, .int x2), (3, .int x3)]) hx hb dX2_reachedFrom_13 hl (by decide) rfl (fun ls hl => ?_)
      refine lv_iconst (v := 0) hx hb dX2_reachedFrom_15 (by decide) ?_
      refine lv_istore (lv' := [(5, .int 0), (4, .int x2), (0, .ref (ad 1)), (2, .int x2), (3, .int x3)]) hx hb dX2_reachedFrom_16 hl (by decide) rfl (fun ls hl => ?_)
      refine wl_X2_reachedFrom_L18 C st hret N x3 x2 _ (fun a_7 a_8 H locs ls h hI hl => ?_) N x2 0 H locs ls h hI (lv_sub hl [2, 3, 4, 1, 0] rfl)
      refine lv_iload_n hx hb dX2_reachedFrom_52 rfl (lv_at hl 1 rfl) ?_
      refine lv_iload hx hb dX2_reachedFrom_53 (lv_at hl 3 rfl) ?_
      refine lv_icmp_ne (tgt := 61) hx hb dX2_reachedFrom_55 (by decide) (fun c_9 => ?_) (fun c_9 => ?_)
      · replace h := (if_neg c_9).symm.trans h
        refine lv_iinc (v := x3 + 1) (lv' := [(3, .int (x3 + 1)), (0, .ref (ad 1)), (2, .int a_7), (4, .int x2), (5, .int a_8)]) hx hb dX2_reachedFrom_61 hl (k := 2) rfl rfl (by decide) rfl (fun ls hl => ?_)
        refine lv_goto (tgt := 4) hx hb dX2_reachedFrom_64 (by decide) ?_
        exact ih _ _ _ _ _ h hI (lv_sub hl [1, 2, 0] rfl)
      · replace h := (if_pos c_9).symm.trans h
        refine lv_goto (tgt := 67) hx hb dX2_reachedFrom_58 (by decide) ?_
        exact hk _ _ _ _ _ h hI (lv_sub hl [0, 1, 2] rfl)
set_option maxHeartbeats 4000000 in
set_option maxRecDepth 100000 in
theorem c_X2_reachedFrom (l : Launch) (g : GP) (Y : va_W) (ad : Nat → Nat) (N : Nat) (x1 : Int32)  (st : St) {r : Int32}  (h : f_X2_reachedFrom N st x1 = some r) : MetI l yX2_reachedFrom wsX2_reachedFrom rmX2_reachedFrom g (wCX g Y ad) [.ref (ad 1), .int x1] st (r) st := by
  refine metI_of (cc := cX2_reachedFrom) (nL := 6) (ty := .int) (by decide) rfl (Nat.le_of_ble_eq_true rfl) rfl ?_
  intro p e s m below meth c Q A C hret H locs hI ls hl
  have C : Cx p s m _ c cX2_reachedFrom 6 wsX2_reachedFrom RX2 g A := C
  obtain ⟨hx, hb, hml, hown, hts⟩ := id C.1
  have hl : lv_has ls 6 [(0, .ref (ad 1)), (1, .int x1)] := hl
  rw [f_X2_reachedFrom] at h
  refine lv_iload_n hx hb dX2_reachedFrom_0 rfl (lv_at hl 1 rfl) ?_
  refine lv_istore_n (lv' := [(2, .int x1), (0, .ref (ad 1)), (1, .int x1)]) hx hb dX2_reachedFrom_1 rfl hl (by decide) rfl (fun ls hl => ?_)
  refine lv_iconst (v := 0) hx hb dX2_reachedFrom_2 (by decide) ?_
  refine lv_istore_n (lv' := [(3, .int 0), (2, .int x1), (0, .ref (ad 1)), (1, .int x1)]) hx hb dX2_reachedFrom_3 rfl hl (by decide) rfl (fun ls hl => ?_)
  refine wl_X2_reachedFrom_L4 C st hret N _ (fun a_10 a_11 H locs ls h hI hl => ?_) N x1 0 H locs ls h hI (lv_sub hl [2, 1, 0] rfl)
  refine lv_iload_n hx hb dX2_reachedFrom_67 rfl (lv_at hl 1 rfl) ?_
  obtain rfl := ret1 h
  exact hret H locs _ ls hI dX2_reachedFrom_68
theorem hv_X2_reachedFrom : yX2_reachedFrom.cls = RX2 ∧ yX2_reachedFrom.cls ≠ "java/lang/invoke/MethodHandle" ∧ yX2_reachedFrom.cls ≠ "java/lang/invoke/VarHandle" ∧ (parseMethodDescriptor yX2_reachedFrom.desc).map (fun d => d.parameters.length) = some 1 := by decide +kernel
/-! X2_earlierThan -/
def rmX2_earlierThan : Room := { frames := 2, cells := 0, slots := 0, locals := 46 }
def f_X2_earlierThan_L2 (N : Nat) (x1 : Int32) (k : Int32 → St → Option (Int32 × St)) : Nat → Int32 → St → Option (Int32 × St)
  | 0, _, _ => none
  | n + 1, x2, st => if st 13 0 ≤ x2 then k x2 st else ck 10 x2 fun j_2 => sto 10 st 12 x2 (st 6 j_2) fun st_3 => f_X2_earlierThan_L2 N x1 k n (x2 + 1) st_3
def f_X2_earlierThan (N : Nat) (st : St) (x1 : Int32) : Option (Int32 × St) := f_X2_earlierThan_L2 N x1 (fun a_4 st_5 => ck 10 x1 fun j_6 => bd1 (f_X2_reachedFrom N st_5 (st_5 12 j_6)) fun r_8 => some (r_8, st_5)) N 0 st
set_option maxHeartbeats 4000000 in
set_option maxRecDepth 100000 in
theorem wl_X2_earlierThan_L2 {p : Program} {l : Launch} {e : Env} {s : State} {m : MethodId} {args : Array Value} {below : List Frame} {meth : Method} {c : Code} {Q : State → Prop} {A : Nat → Prop} {g : GP} {Y : va_W} {ad : Nat → Nat} {r : Int32} {st' : St} (C : Cx p s m args c cX2_earlierThan 3 wsX2_earlierThan RX2 g A) (hret : RetI p l e rmX2_earlierThan s m args below meth c Q cX2_earlierThan g A (wCX g Y ad st') (r)) (N : Nat) (x1 : Int32)  (k : Int32 → St → Option (Int32 × St)) (hk : ∀ (x2 : Int32) (st : St) (H : Heap) (locs : List Loc) (ls : Array Slot), k x2 st = some (r, st') → IW g A s.heap (wCX g Y ad st) H locs → lv_has ls 3 [(0, .ref (ad 1)), (1, .int x1), (2, .int x2)] → W p l e rmX2_earlierThan s m args below meth c H locs 0 0 Q (F0 m 31 ls [])) : ∀ (n : Nat) (x2 : Int32) (st : St) (H : Heap) (locs : List Loc) (ls : Array Slot), f_X2_earlierThan_L2 N x1 k n x2 st = some (r, st') → IW g A s.heap (wCX g Y ad st) H locs → lv_has ls 3 [(0, .ref (ad 1)), (1, .int x1), (2, .int x2)] → W p l e rmX2_earlierThan s m args below meth c H locs 0 0 Q (F0 m 2 ls []) := by
  obtain ⟨hx, hb, hml, hown, hts⟩ := id C.1
  have hinRX2 : ∀ w ∈ u_ws RX2 TX2 7, w ∈ wsX2_earlierThan := by decide +kernel
  have lk41 := hts (.fieldLink RX2 41 "GraveRows$Ground" "size" "I") (by decide +kernel)
  have lk27 := hts (.fieldLink RX2 27 "GraveRows$Ground" "steps" "[I") (by decide +kernel)
  have lk11 := hts (.fieldLink RX2 11 "GraveRows$Ground" "graves" "[LGraveRows$Grave;") (by decide +kernel)
  have hinRX1 : ∀ w ∈ u_ws RX1 TX1 9, w ∈ wsX2_earlierThan := by decide +kernel
  have lk52 := hts (.fieldLink RX2 52 "GraveRows$Grave" "cuts" "I") (by decide +kernel)
  intro n
  induction n with
  | zero =>
    intro x2 st H locs ls h hI hl
    rw [f_X2_earlierThan_L2] at h
    cases h
  | succ n ih =>
    intro x2 st H locs ls h hI hl
    rw [f_X2_earlierThan_L2] at h
    refine lv_iload_n hx hb dX2_earlierThan_2 rfl (lv_at hl 2 rfl) ?_
    refine lv_aload_n hx hb dX2_earlierThan_3 rfl (lv_at hl 0 rfl) ?_
    refine w_get (v := .int (st 13 0)) C hinRX2 hI 1 at_G0 rfl 5 (by decide) lk41 rfl rfl dX2_earlierThan_4 ?_
    refine lv_icmp_ge (tgt := 31) hx hb dX2_earlierThan_7 (by decide) (fun c_1 => ?_) (fun c_1 => ?_)
    · replace h := (if_pos c_1).symm.trans h
      exact hk _ _ _ _ _ h hI (lv_sub hl [0, 1, 2] rfl)
    · replace h := (if_neg c_1).symm.trans h
      refine lv_aload_n hx hb dX2_earlierThan_10 rfl (lv_at hl 0 rfl) ?_
      refine w_get (v := .ref (ad 6)) C hinRX2 hI 1 at_G0 rfl 4 (by decide) lk27 rfl rfl dX2_earlierThan_11 ?_
      refine lv_iload_n hx hb dX2_earlierThan_14 rfl (lv_at hl 2 rfl) ?_
      refine lv_aload_n hx hb dX2_earlierThan_15 rfl (lv_at hl 0 rfl) ?_
      refine w_get (v := .ref (ad 2)) C hinRX2 hI 1 at_G0 rfl 0 (by decide) lk11 rfl rfl dX2_earlierThan_16 ?_
      refine lv_iload_n hx hb dX2_earlierThan_19 rfl (lv_at hl 2 rfl) ?_
      refine w_ald (t0 := 2) (fa := fun j => ad (7 + j)) C hI 2 ra_2 rfl (fun _ => rfl) h dX2_earlierThan_20 (fun j_2 hj_2 h => ?_)
      refine w_get (v := .int (st 6 j_2)) C hinRX1 hI (7 + j_2) (at_V0 hj_2) rfl 6 (by decide) lk52 rfl rfl dX2_earlierThan_21 ?_
      refine w_st C hI 6 ar_6 sa_6 h dX2_earlierThan_24 (fun st_3 H locs h hI => ?_)
      refine lv_iinc (v := x2 + 1) (lv' := [(2, .int (x2 + 1)), (0, .ref (ad 1)), (1, .int x1)]) hx hb dX2_earlierThan_25 hl (k := 2) rfl rfl (by decide) rfl (fun ls hl => ?_)
      refine lv_goto (tgt := 2) hx hb dX2_earlierThan_28 (by decide) ?_
      exact ih _ _ _ _ _ h hI (lv_sub hl [1, 2, 0] rfl)
set_option maxHeartbeats 4000000 in
set_option maxRecDepth 100000 in
theorem c_X2_earlierThan (l : Launch) (g : GP) (Y : va_W) (ad : Nat → Nat) (N : Nat) (x1 : Int32)  (st : St) {r : Int32} {st' : St} (h : f_X2_earlierThan N st x1 = some (r, st')) : MetI l yX2_earlierThan wsX2_earlierThan rmX2_earlierThan g (wCX g Y ad) [.ref (ad 1), .int x1] st (r) st' := by
  refine metI_of (cc := cX2_earlierThan) (nL := 3) (ty := .int) (by decide) rfl (Nat.le_of_ble_eq_true rfl) rfl ?_
  intro p e s m below meth c Q A C hret H locs hI ls hl
  have C : Cx p s m _ c cX2_earlierThan 3 wsX2_earlierThan RX2 g A := C
  obtain ⟨hx, hb, hml, hown, hts⟩ := id C.1
  have hl : lv_has ls 3 [(0, .ref (ad 1)), (1, .int x1)] := hl
  have hinRX2 : ∀ w ∈ u_ws RX2 TX2 7, w ∈ wsX2_earlierThan := by decide +kernel
  have lk27 := hts (.fieldLink RX2 27 "GraveRows$Ground" "steps" "[I") (by decide +kernel)
  rw [f_X2_earlierThan] at h
  refine lv_iconst (v := 0) hx hb dX2_earlierThan_0 (by decide) ?_
  refine lv_istore_n (lv' := [(2, .int 0), (0, .ref (ad 1)), (1, .int x1)]) hx hb dX2_earlierThan_1 rfl hl (by decide) rfl (fun ls hl => ?_)
  refine wl_X2_earlierThan_L2 C hret N x1 _ (fun a_4 st_5 H locs ls h hI hl => ?_) N 0 st H locs ls h hI (lv_sub hl [1, 2, 0] rfl)
  refine lv_aload_n hx hb dX2_earlierThan_31 rfl (lv_at hl 0 rfl) ?_
  refine lv_aload_n hx hb dX2_earlierThan_32 rfl (lv_at hl 0 rfl) ?_
  refine w_get (v := .ref (ad 6)) C hinRX2 hI 1 at_G0 rfl 4 (by decide) lk27 rfl rfl dX2_earlierThan_33 ?_
  refine lv_iload_n hx hb dX2_earlierThan_36 rfl (lv_at hl 1 rfl) ?_
  refine w_ld C hI 6 ar_6 h dX2_earlierThan_37 (fun j_6 hj_6 h => ?_)
  obtain ⟨r_8, hr_7, h⟩ := bd1_some h
  refine callV_I (rest := []) C hI (c_X2_reachedFrom l g Y ad N (st_5 12 j_6) st_5 hr_7) (cwV 1 hts gX2_earlierThan_X2_reachedFrom rfl rfl rfl hv_X2_reachedFrom ⟨Nat.le_of_ble_eq_true rfl, Nat.le_of_ble_eq_true rfl⟩) (w_recv C hI 1 at_G0 rfl) rfl hl.1 rfl (Nat.le_of_ble_eq_true rfl) dX2_earlierThan_38 (fun H locs hI => ?_)
  obtain ⟨rfl, rfl⟩ := ret2 h
  exact hret H locs _ ls hI dX2_earlierThan_41
theorem hv_X2_earlierThan : yX2_earlierThan.cls = RX2 ∧ yX2_earlierThan.cls ≠ "java/lang/invoke/MethodHandle" ∧ yX2_earlierThan.cls ≠ "java/lang/invoke/VarHandle" ∧ (parseMethodDescriptor yX2_earlierThan.desc).map (fun d => d.parameters.length) = some 1 := by decide +kernel
/-! X2_laterThan -/
def rmX2_laterThan : Room := { frames := 2, cells := 0, slots := 0, locals := 46 }
def f_X2_laterThan_L2 (N : Nat) (x1 : Int32) (k : Int32 → St → Option (Int32 × St)) : Nat → Int32 → St → Option (Int32 × St)
  | 0, _, _ => none
  | n + 1, x2, st => if st 13 0 ≤ x2 then k x2 st else bd1 (f_X2_cuttersOf N st x2) fun r_3 => sto 10 st 12 x2 r_3 fun st_4 => f_X2_laterThan_L2 N x1 k n (x2 + 1) st_4
def f_X2_laterThan (N : Nat) (st : St) (x1 : Int32) : Option (Int32 × St) := f_X2_laterThan_L2 N x1 (fun a_5 st_6 => ck 10 x1 fun j_7 => bd1 (f_X2_reachedFrom N st_6 (st_6 12 j_7)) fun r_9 => some (r_9, st_6)) N 0 st
set_option maxHeartbeats 4000000 in
set_option maxRecDepth 100000 in
theorem wl_X2_laterThan_L2 {p : Program} {l : Launch} {e : Env} {s : State} {m : MethodId} {args : Array Value} {below : List Frame} {meth : Method} {c : Code} {Q : State → Prop} {A : Nat → Prop} {g : GP} {Y : va_W} {ad : Nat → Nat} {r : Int32} {st' : St} (C : Cx p s m args c cX2_laterThan 3 wsX2_laterThan RX2 g A) (hret : RetI p l e rmX2_laterThan s m args below meth c Q cX2_laterThan g A (wCX g Y ad st') (r)) (N : Nat) (x1 : Int32)  (k : Int32 → St → Option (Int32 × St)) (hk : ∀ (x2 : Int32) (st : St) (H : Heap) (locs : List Loc) (ls : Array Slot), k x2 st = some (r, st') → IW g A s.heap (wCX g Y ad st) H locs → lv_has ls 3 [(0, .ref (ad 1)), (1, .int x1), (2, .int x2)] → W p l e rmX2_laterThan s m args below meth c H locs 0 0 Q (F0 m 27 ls [])) : ∀ (n : Nat) (x2 : Int32) (st : St) (H : Heap) (locs : List Loc) (ls : Array Slot), f_X2_laterThan_L2 N x1 k n x2 st = some (r, st') → IW g A s.heap (wCX g Y ad st) H locs → lv_has ls 3 [(0, .ref (ad 1)), (1, .int x1), (2, .int x2)] → W p l e rmX2_laterThan s m args below meth c H locs 0 0 Q (F0 m 2 ls []) := by
  obtain ⟨hx, hb, hml, hown, hts⟩ := id C.1
  have hinRX2 : ∀ w ∈ u_ws RX2 TX2 7, w ∈ wsX2_laterThan := by decide +kernel
  have lk41 := hts (.fieldLink RX2 41 "GraveRows$Ground" "size" "I") (by decide +kernel)
  have lk27 := hts (.fieldLink RX2 27 "GraveRows$Ground" "steps" "[I") (by decide +kernel)
  intro n
  induction n with
  | zero =>
    intro x2 st H locs ls h hI hl
    rw [f_X2_laterThan_L2] at h
    cases h
  | succ n ih =>
    intro x2 st H locs ls h hI hl
    rw [f_X2_laterThan_L2] at h
    refine lv_iload_n hx hb dX2_laterThan_2 rfl (lv_at hl 2 rfl) ?_
    refine lv_aload_n hx hb dX2_laterThan_3 rfl (lv_at hl 0 rfl) ?_
    refine w_get (v := .int (st 13 0)) C hinRX2 hI 1 at_G0 rfl 5 (by decide) lk41 rfl rfl dX2_laterThan_4 ?_
    refine lv_icmp_ge (tgt := 27) hx hb dX2_laterThan_7 (by decide) (fun c_1 => ?_) (fun c_1 => ?_)
    · replace h := (if_pos c_1).symm.trans h
      exact hk _ _ _ _ _ h hI (lv_sub hl [0, 1, 2] rfl)
    · replace h := (if_neg c_1).symm.trans h
      refine lv_aload_n hx hb dX2_laterThan_10 rfl (lv_at hl 0 rfl) ?_
      refine w_get (v := .ref (ad 6)) C hinRX2 hI 1 at_G0 rfl 4 (by decide) lk27 rfl rfl dX2_laterThan_11 ?_
      refine lv_iload_n hx hb dX2_laterThan_14 rfl (lv_at hl 2 rfl) ?_
      refine lv_aload_n hx hb dX2_laterThan_15 rfl (lv_at hl 0 rfl) ?_
      refine lv_iload_n hx hb dX2_laterThan_16 rfl (lv_at hl 2 rfl) ?_
      obtain ⟨r_3, hr_2, h⟩ := bd1_some h
      refine callV_I (rest := [.int x2, .ref (ad 6)]) C hI (c_X2_cuttersOf l g Y ad N x2 st hr_2) (cwV 1 hts gX2_laterThan_X2_cuttersOf rfl rfl rfl hv_X2_cuttersOf ⟨Nat.le_of_ble_eq_true rfl, Nat.le_of_ble_eq_true rfl⟩) (w_recv C hI 1 at_G0 rfl) rfl hl.1 rfl (Nat.le_of_ble_eq_true rfl) dX2_laterThan_17 (fun H locs hI => ?_)
      refine w_st C hI 6 ar_6 sa_6 h dX2_laterThan_20 (fun st_4 H locs h hI => ?_)
      refine lv_iinc (v := x2 + 1) (lv' := [(2, .int (x2 + 1)), (0, .ref (ad 1)), (1, .int x1)]) hx hb dX2_laterThan_21 hl (k := 2) rfl rfl (by decide) rfl (fun ls hl => ?_)
      refine lv_goto (tgt := 2) hx hb dX2_laterThan_24 (by decide) ?_
      exact ih _ _ _ _ _ h hI (lv_sub hl [1, 2, 0] rfl)
set_option maxHeartbeats 4000000 in
set_option maxRecDepth 100000 in
theorem c_X2_laterThan (l : Launch) (g : GP) (Y : va_W) (ad : Nat → Nat) (N : Nat) (x1 : Int32)  (st : St) {r : Int32} {st' : St} (h : f_X2_laterThan N st x1 = some (r, st')) : MetI l yX2_laterThan wsX2_laterThan rmX2_laterThan g (wCX g Y ad) [.ref (ad 1), .int x1] st (r) st' := by
  refine metI_of (cc := cX2_laterThan) (nL := 3) (ty := .int) (by decide) rfl (Nat.le_of_ble_eq_true rfl) rfl ?_
  intro p e s m below meth c Q A C hret H locs hI ls hl
  have C : Cx p s m _ c cX2_laterThan 3 wsX2_laterThan RX2 g A := C
  obtain ⟨hx, hb, hml, hown, hts⟩ := id C.1
  have hl : lv_has ls 3 [(0, .ref (ad 1)), (1, .int x1)] := hl
  have hinRX2 : ∀ w ∈ u_ws RX2 TX2 7, w ∈ wsX2_laterThan := by decide +kernel
  have lk27 := hts (.fieldLink RX2 27 "GraveRows$Ground" "steps" "[I") (by decide +kernel)
  rw [f_X2_laterThan] at h
  refine lv_iconst (v := 0) hx hb dX2_laterThan_0 (by decide) ?_
  refine lv_istore_n (lv' := [(2, .int 0), (0, .ref (ad 1)), (1, .int x1)]) hx hb dX2_laterThan_1 rfl hl (by decide) rfl (fun ls hl => ?_)
  refine wl_X2_laterThan_L2 C hret N x1 _ (fun a_5 st_6 H locs ls h hI hl => ?_) N 0 st H locs ls h hI (lv_sub hl [1, 2, 0] rfl)
  refine lv_aload_n hx hb dX2_laterThan_27 rfl (lv_at hl 0 rfl) ?_
  refine lv_aload_n hx hb dX2_laterThan_28 rfl (lv_at hl 0 rfl) ?_
  refine w_get (v := .ref (ad 6)) C hinRX2 hI 1 at_G0 rfl 4 (by decide) lk27 rfl rfl dX2_laterThan_29 ?_
  refine lv_iload_n hx hb dX2_laterThan_32 rfl (lv_at hl 1 rfl) ?_
  refine w_ld C hI 6 ar_6 h dX2_laterThan_33 (fun j_7 hj_7 h => ?_)
  obtain ⟨r_9, hr_8, h⟩ := bd1_some h
  refine callV_I (rest := []) C hI (c_X2_reachedFrom l g Y ad N (st_6 12 j_7) st_6 hr_8) (cwV 1 hts gX2_laterThan_X2_reachedFrom rfl rfl rfl hv_X2_reachedFrom ⟨Nat.le_of_ble_eq_true rfl, Nat.le_of_ble_eq_true rfl⟩) (w_recv C hI 1 at_G0 rfl) rfl hl.1 rfl (Nat.le_of_ble_eq_true rfl) dX2_laterThan_34 (fun H locs hI => ?_)
  obtain ⟨rfl, rfl⟩ := ret2 h
  exact hret H locs _ ls hI dX2_laterThan_37
theorem hv_X2_laterThan : yX2_laterThan.cls = RX2 ∧ yX2_laterThan.cls ≠ "java/lang/invoke/MethodHandle" ∧ yX2_laterThan.cls ≠ "java/lang/invoke/VarHandle" ∧ (parseMethodDescriptor yX2_laterThan.desc).map (fun d => d.parameters.length) = some 1 := by decide +kernel
/-! X2_earliestOf -/
def rmX2_earliestOf : Room := { frames := 3, cells := 0, slots := 0, locals := 68 }
def f_X2_earliestOf_L17 (N : Nat) (x2 : Int32) (st : St) (k : Int32 → Int32 → Option (Int32 × St)) : Nat → Int32 → Int32 → Option (Int32 × St)
  | 0, _, _ => none
  | n + 1, x3, x4 => if st 13 0 ≤ x4 then k x3 x4 else bnd (f_X5_isIn x2 x4) fun r_6 => if b2i r_6 = 0 then f_X2_earliestOf_L17 N x2 st k n x3 (x4 + 1) else ck 10 x4 fun j_8 => bnd (imax x3 (st 4 j_8)) fun v_9 => f_X2_earliestOf_L17 N x2 st k n v_9 (x4 + 1)
def f_X2_earliestOf (N : Nat) (st : St) (x1 : Int32) : Option (Int32 × St) := bd2 (f_X2_earlierThan N st x1) fun r_2 st_3 => bnd (r_2 ||| ((1 : Int32) <<< (x1 &&& 31))) fun v_4 => f_X2_earliestOf_L17 N v_4 st_3 (fun a_10 a_11 => some (a_10, st_3)) N (-5000 : Int32) 0
set_option maxHeartbeats 4000000 in
set_option maxRecDepth 100000 in
theorem wl_X2_earliestOf_L17 {p : Program} {l : Launch} {e : Env} {s : State} {m : MethodId} {args : Array Value} {below : List Frame} {meth : Method} {c : Code} {Q : State → Prop} {A : Nat → Prop} {g : GP} {Y : va_W} {ad : Nat → Nat} {r : Int32} {st' : St} (C : Cx p s m args c cX2_earliestOf 5 wsX2_earliestOf RX2 g A) (hret : RetI p l e rmX2_earliestOf s m args below meth c Q cX2_earliestOf g A (wCX g Y ad st') (r)) (N : Nat) (x2 : Int32) (st : St)  (k : Int32 → Int32 → Option (Int32 × St)) (hk : ∀ (x3 : Int32) (x4 : Int32) (H : Heap) (locs : List Loc) (ls : Array Slot), k x3 x4 = some (r, st') → IW g A s.heap (wCX g Y ad st) H locs → lv_has ls 5 [(0, .ref (ad 1)), (2, .int x2), (3, .int x3), (4, .int x4)] → W p l e rmX2_earliestOf s m args below meth c H locs 0 0 Q (F0 m 56 ls [])) : ∀ (n : Nat) (x3 : Int32) (x4 : Int32) (H : Heap) (locs : List Loc) (ls : Array Slot), f_X2_earliestOf_L17 N x2 st k n x3 x4 = some (r, st') → IW g A s.heap (wCX g Y ad st) H locs → lv_has ls 5 [(0, .ref (ad 1)), (2, .int x2), (3, .int x3), (4, .int x4)] → W p l e rmX2_earliestOf s m args below meth c H locs 0 0 Q (F0 m 17 ls []) := by
  obtain ⟨hx, hb, hml, hown, hts⟩ := id C.1
  have hinRX2 : ∀ w ∈ u_ws RX2 TX2 7, w ∈ wsX2_earliestOf := by decide +kernel
  have lk41 := hts (.fieldLink RX2 41 "GraveRows$Ground" "size" "I") (by decide +kernel)
  have iniRX5 := hts (.initialized RX5) (by decide +kernel)
  have staX5_isIn := hts (.static yX5_isIn) (by decide +kernel)
  have lk11 := hts (.fieldLink RX2 11 "GraveRows$Ground" "graves" "[LGraveRows$Grave;") (by decide +kernel)
  have hinRX1 : ∀ w ∈ u_ws RX1 TX1 9, w ∈ wsX2_earliestOf := by decide +kernel
  have lk74 := hts (.fieldLink RX2 74 "GraveRows$Grave" "from" "I") (by decide +kernel)
  have ml77 := hts (.methodLink RX2 77 Lib.Math.max.name) (by decide +kernel)
  have msmax := hts (.static Lib.Math.max.name) (by decide +kernel)
  have mini := hts (.initialized "java/lang/Math") (by decide +kernel)
  have mcmax := hts (.code Lib.Math.max.name Lib.Math.max.code 2 (some .int)) (by decide +kernel)
  intro n
  induction n with
  | zero =>
    intro x3 x4 H locs ls h hI hl
    rw [f_X2_earliestOf_L17] at h
    cases h
  | succ n ih =>
    intro x3 x4 H locs ls h hI hl
    rw [f_X2_earliestOf_L17] at h
    refine lv_iload hx hb dX2_earliestOf_17 (lv_at hl 3 rfl) ?_
    refine lv_aload_n hx hb dX2_earliestOf_19 rfl (lv_at hl 0 rfl) ?_
    refine w_get (v := .int (st 13 0)) C hinRX2 hI 1 at_G0 rfl 5 (by decide) lk41 rfl rfl dX2_earliestOf_20 ?_
    refine lv_icmp_ge (tgt := 56) hx hb dX2_earliestOf_23 (by decide) (fun c_5 => ?_) (fun c_5 => ?_)
    · replace h := (if_pos c_5).symm.trans h
      exact hk _ _ _ _ _ h hI (lv_sub hl [0, 1, 2, 3] rfl)
    · replace h := (if_neg c_5).symm.trans h
      refine lv_iload_n hx hb dX2_earliestOf_26 rfl (lv_at hl 1 rfl) ?_
      refine lv_iload hx hb dX2_earliestOf_27 (lv_at hl 3 rfl) ?_
      refine callN_S (rest := []) C.1 (c_X5_isIn l x2 x4) ⟨va_cnB 2 hts gX2_earliestOf_X5_isIn_n61 rfl rfl rfl C.2.2.1 iniRX5 hd_X5_isIn ⟨Nat.le_of_ble_eq_true rfl, Nat.le_of_ble_eq_true rfl⟩, staX5_isIn, trivial⟩ rfl hl.1 rfl (Nat.le_of_ble_eq_true rfl) dX2_earliestOf_29 ?_
      refine gen_b h (fun r_6 h => ?_)
      refine lv_if_eq (tgt := 50) hx hb dX2_earliestOf_32 (by decide) (fun c_7 => ?_) (fun c_7 => ?_)
      · replace h := (if_pos c_7).symm.trans h
        refine lv_iinc (v := x4 + 1) (lv' := [(4, .int (x4 + 1)), (0, .ref (ad 1)), (2, .int x2), (3, .int x3)]) hx hb dX2_earliestOf_50 hl (k := 3) rfl rfl (by decide) rfl (fun ls hl => ?_)
        refine lv_goto (tgt := 17) hx hb dX2_earliestOf_53 (by decide) ?_
        exact ih _ _ _ _ _ h hI (lv_sub hl [1, 2, 3, 0] rfl)
      · replace h := (if_neg c_7).symm.trans h
        refine lv_iload_n hx hb dX2_earliestOf_35 rfl (lv_at hl 2 rfl) ?_
        refine lv_aload_n hx hb dX2_earliestOf_36 rfl (lv_at hl 0 rfl) ?_
        refine w_get (v := .ref (ad 2)) C hinRX2 hI 1 at_G0 rfl 0 (by decide) lk11 rfl rfl dX2_earliestOf_37 ?_
        refine lv_iload hx hb dX2_earliestOf_40 (lv_at hl 3 rfl) ?_
        refine w_ald (t0 := 2) (fa := fun j => ad (7 + j)) C hI 2 ra_2 rfl (fun _ => rfl) h dX2_earliestOf_42 (fun j_8 hj_8 h => ?_)
        refine w_get (v := .int (st 4 j_8)) C hinRX1 hI (7 + j_8) (at_V0 hj_8) rfl 4 (by decide) lk74 rfl rfl dX2_earliestOf_43 ?_
        refine w_mmax hx hb (hml.trans hl.1.symm) hown ml77 msmax mini mcmax (Nat.le_of_ble_eq_true rfl) (Nat.le_of_ble_eq_true rfl) dX2_earliestOf_46 ?_
        refine gen_i h (fun v_9 h => ?_)
        refine lv_istore_n (lv' := [(3, .int v_9), (0, .ref (ad 1)), (2, .int x2), (4, .int x4)]) hx hb dX2_earliestOf_49 rfl hl (by decide) rfl (fun ls hl => ?_)
        refine lv_iinc (v := x4 + 1) (lv' := [(4, .int (x4 + 1)), (3, .int v_9), (0, .ref (ad 1)), (2, .int x2)]) hx hb dX2_earliestOf_50 hl (k := 3) rfl rfl (by decide) rfl (fun ls hl => ?_)
        refine lv_goto (tgt := 17) hx hb dX2_earliestOf_53 (by decide) ?_
        exact ih _ _ _ _ _ h hI (lv_sub hl [2, 3, 1, 0] rfl)
set_option maxHeartbeats 4000000 in
set_option maxRecDepth 100000 in
theorem c_X2_earliestOf (l : Launch) (g : GP) (Y : va_W) (ad : Nat → Nat) (N : Nat) (x1 : Int32)  (st : St) {r : Int32} {st' : St} (h : f_X2_earliestOf N st x1 = some (r, st')) : MetI l yX2_earliestOf wsX2_earliestOf rmX2_earliestOf g (wCX g Y ad) [.ref (ad 1), .int x1] st (r) st' := by
  refine metI_of (cc := cX2_earliestOf) (nL := 5) (ty := .int) (by decide) rfl (Nat.le_of_ble_eq_true rfl) rfl ?_
  intro p e s m below meth c Q A C hret H locs hI ls hl
  have C : Cx p s m _ c cX2_earliestOf 5 wsX2_earliestOf RX2 g A := C
  obtain ⟨hx, hb, hml, hown, hts⟩ := id C.1
  have hl : lv_has ls 5 [(0, .ref (ad 1)), (1, .int x1)] := hl
  rw [f_X2_earliestOf] at h
  refine lv_aload_n hx hb dX2_earliestOf_0 rfl (lv_at hl 0 rfl) ?_
  refine lv_iload_n hx hb dX2_earliestOf_1 rfl (lv_at hl 1 rfl) ?_
  obtain ⟨r_2, st_3, hr_1, h⟩ := bd2_some h
  refine callV_I (rest := []) C hI (c_X2_earlierThan l g Y ad N x1 st hr_1) (cwV 1 hts gX2_earliestOf_X2_earlierThan rfl rfl rfl hv_X2_earlierThan ⟨Nat.le_of_ble_eq_true rfl, Nat.le_of_ble_eq_true rfl⟩) (w_recv C hI 1 at_G0 rfl) rfl hl.1 rfl (Nat.le_of_ble_eq_true rfl) dX2_earliestOf_2 (fun H locs hI => ?_)
  refine lv_iconst (v := 1) hx hb dX2_earliestOf_5 (by decide) ?_
  refine lv_iload_n hx hb dX2_earliestOf_6 rfl (lv_at hl 1 rfl) ?_
  refine lv_ishl hx hb dX2_earliestOf_7 ?_
  refine lv_ior hx hb dX2_earliestOf_8 ?_
  refine gen_i h (fun v_4 h => ?_)
  refine lv_istore_n (lv' := [(2, .int v_4), (0, .ref (ad 1)), (1, .int x1)]) hx hb dX2_earliestOf_9 rfl hl (by decide) rfl (fun ls hl => ?_)
  refine lv_sipush (v := (-5000)) hx hb dX2_earliestOf_10 (by decide) ?_
  refine lv_istore_n (lv' := [(3, .int (-5000 : Int32)), (2, .int v_4), (0, .ref (ad 1)), (1, .int x1)]) hx hb dX2_earliestOf_13 rfl hl (by decide) rfl (fun ls hl => ?_)
  refine lv_iconst (v := 0) hx hb dX2_earliestOf_14 (by decide) ?_
  refine lv_istore (lv' := [(4, .int 0), (3, .int (-5000 : Int32)), (2, .int v_4), (0, .ref (ad 1)), (1, .int x1)]) hx hb dX2_earliestOf_15 hl (by decide) rfl (fun ls hl => ?_)
  refine wl_X2_earliestOf_L17 C hret N v_4 st_3 _ (fun a_10 a_11 H locs ls h hI hl => ?_) N (-5000 : Int32) 0 H locs ls h hI (lv_sub hl [3, 2, 1, 0] rfl)
  refine lv_iload_n hx hb dX2_earliestOf_56 rfl (lv_at hl 2 rfl) ?_
  obtain ⟨rfl, rfl⟩ := ret2 h
  exact hret H locs _ ls hI dX2_earliestOf_57
theorem hv_X2_earliestOf : yX2_earliestOf.cls = RX2 ∧ yX2_earliestOf.cls ≠ "java/lang/invoke/MethodHandle" ∧ yX2_earliestOf.cls ≠ "java/lang/invoke/VarHandle" ∧ (parseMethodDescriptor yX2_earliestOf.desc).map (fun d => d.parameters.length) = some 1 := by decide +kernel
/-! X2_latestOf -/
def rmX2_latestOf : Room := { frames := 3, cells := 0, slots := 0, locals := 68 }
def f_X2_latestOf_L17 (N : Nat) (x2 : Int32) (st : St) (k : Int32 → Int32 → Option (Int32 × St)) : Nat → Int32 → Int32 → Option (Int32 × St)
  | 0, _, _ => none
  | n + 1, x3, x4 => if st 13 0 ≤ x4 then k x3 x4 else bnd (f_X5_isIn x2 x4) fun r_6 => if b2i r_6 = 0 then f_X2_latestOf_L17 N x2 st k n x3 (x4 + 1) else ck 10 x4 fun j_8 => bnd (imin x3 (st 5 j_8)) fun v_9 => f_X2_latestOf_L17 N x2 st k n v_9 (x4 + 1)
def f_X2_latestOf (N : Nat) (st : St) (x1 : Int32) : Option (Int32 × St) := bd2 (f_X2_laterThan N st x1) fun r_2 st_3 => bnd (r_2 ||| ((1 : Int32) <<< (x1 &&& 31))) fun v_4 => f_X2_latestOf_L17 N v_4 st_3 (fun a_10 a_11 => some (a_10, st_3)) N 5000 0
set_option maxHeartbeats 4000000 in
set_option maxRecDepth 100000 in
theorem wl_X2_latestOf_L17 {p : Program} {l : Launch} {e : Env} {s : State} {m : MethodId} {args : Array Value} {below : List Frame} {meth : Method} {c : Code} {Q : State → Prop} {A : Nat → Prop} {g : GP} {Y : va_W} {ad : Nat → Nat} {r : Int32} {st' : St} (C : Cx p s m args c cX2_latestOf 5 wsX2_latestOf RX2 g A) (hret : RetI p l e rmX2_latestOf s m args below meth c Q cX2_latestOf g A (wCX g Y ad st') (r)) (N : Nat) (x2 : Int32) (st : St)  (k : Int32 → Int32 → Option (Int32 × St)) (hk : ∀ (x3 : Int32) (x4 : Int32) (H : Heap) (locs : List Loc) (ls : Array Slot), k x3 x4 = some (r, st') → IW g A s.heap (wCX g Y ad st) H locs → lv_has ls 5 [(0, .ref (ad 1)), (2, .int x2), (3, .int x3), (4, .int x4)] → W p l e rmX2_latestOf s m args below meth c H locs 0 0 Q (F0 m 56 ls [])) : ∀ (n : Nat) (x3 : Int32) (x4 : Int32) (H : Heap) (locs : List Loc) (ls : Array Slot), f_X2_latestOf_L17 N x2 st k n x3 x4 = some (r, st') → IW g A s.heap (wCX g Y ad st) H locs → lv_has ls 5 [(0, .ref (ad 1)), (2, .int x2), (3, .int x3), (4, .int x4)] → W p l e rmX2_latestOf s m args below meth c H locs 0 0 Q (F0 m 17 ls []) := by
  obtain ⟨hx, hb, hml, hown, hts⟩ := id C.1
  have hinRX2 : ∀ w ∈ u_ws RX2 TX2 7, w ∈ wsX2_latestOf := by decide +kernel
  have lk41 := hts (.fieldLink RX2 41 "GraveRows$Ground" "size" "I") (by decide +kernel)
  have iniRX5 := hts (.initialized RX5) (by decide +kernel)
  have staX5_isIn := hts (.static yX5_isIn) (by decide +kernel)
  have lk11 := hts (.fieldLink RX2 11 "GraveRows$Ground" "graves" "[LGraveRows$Grave;") (by decide +kernel)
  have hinRX1 : ∀ w ∈ u_ws RX1 TX1 9, w ∈ wsX2_latestOf := by decide +kernel
  have lk86 := hts (.fieldLink RX2 86 "GraveRows$Grave" "to" "I") (by decide +kernel)
  have ml89 := hts (.methodLink RX2 89 Lib.Math.min.name) (by decide +kernel)
  have msmin := hts (.static Lib.Math.min.name) (by decide +kernel)
  have mini := hts (.initialized "java/lang/Math") (by decide +kernel)
  have mcmin := hts (.code Lib.Math.min.name Lib.Math.min.code 2 (some .int)) (by decide +kernel)
  intro n
  induction n with
  | zero =>
    intro x3 x4 H locs ls h hI hl
    rw [f_X2_latestOf_L17] at h
    cases h
  | succ n ih =>
    intro x3 x4 H locs ls h hI hl
    rw [f_X2_latestOf_L17] at h
    refine lv_iload hx hb dX2_latestOf_17 (lv_at hl 3 rfl) ?_
    refine lv_aload_n hx hb dX2_latestOf_19 rfl (lv_at hl 0 rfl) ?_
    refine w_get (v := .int (st 13 0)) C hinRX2 hI 1 at_G0 rfl 5 (by decide) lk41 rfl rfl dX2_latestOf_20 ?_
    refine lv_icmp_ge (tgt := 56) hx hb dX2_latestOf_23 (by decide) (fun c_5 => ?_) (fun c_5 => ?_)
    · replace h := (if_pos c_5).symm.trans h
      exact hk _ _ _ _ _ h hI (lv_sub hl [0, 1, 2, 3] rfl)
    · replace h := (if_neg c_5).symm.trans h
      refine lv_iload_n hx hb dX2_latestOf_26 rfl (lv_at hl 1 rfl) ?_
      refine lv_iload hx hb dX2_latestOf_27 (lv_at hl 3 rfl) ?_
      refine callN_S (rest := []) C.1 (c_X5_isIn l x2 x4) ⟨va_cnB 2 hts gX2_latestOf_X5_isIn_n61 rfl rfl rfl C.2.2.1 iniRX5 hd_X5_isIn ⟨Nat.le_of_ble_eq_true rfl, Nat.le_of_ble_eq_true rfl⟩, staX5_isIn, trivial⟩ rfl hl.1 rfl (Nat.le_of_ble_eq_true rfl) dX2_latestOf_29 ?_
      refine gen_b h (fun r_6 h => ?_)
      refine lv_if_eq (tgt := 50) hx hb dX2_latestOf_32 (by decide) (fun c_7 => ?_) (fun c_7 => ?_)
      · replace h := (if_pos c_7).symm.trans h
        refine lv_iinc (v := x4 + 1) (lv' := [(4, .int (x4 + 1)), (0, .ref (ad 1)), (2, .int x2), (3, .int x3)]) hx hb dX2_latestOf_50 hl (k := 3) rfl rfl (by decide) rfl (fun ls hl => ?_)
        refine lv_goto (tgt := 17) hx hb dX2_latestOf_53 (by decide) ?_
        exact ih _ _ _ _ _ h hI (lv_sub hl [1, 2, 3, 0] rfl)
      · replace h := (if_neg c_7).symm.trans h
        refine lv_iload_n hx hb dX2_latestOf_35 rfl (lv_at hl 2 rfl) ?_
        refine lv_aload_n hx hb dX2_latestOf_36 rfl (lv_at hl 0 rfl) ?_
        refine w_get (v := .ref (ad 2)) C hinRX2 hI 1 at_G0 rfl 0 (by decide) lk11 rfl rfl dX2_latestOf_37 ?_
        refine lv_iload hx hb dX2_latestOf_40 (lv_at hl 3 rfl) ?_
        refine w_ald (t0 := 2) (fa := fun j => ad (7 + j)) C hI 2 ra_2 rfl (fun _ => rfl) h dX2_latestOf_42 (fun j_8 hj_8 h => ?_)
        refine w_get (v := .int (st 5 j_8)) C hinRX1 hI (7 + j_8) (at_V0 hj_8) rfl 5 (by decide) lk86 rfl rfl dX2_latestOf_43 ?_
        refine w_mmin hx hb (hml.trans hl.1.symm) hown ml89 msmin mini mcmin (Nat.le_of_ble_eq_true rfl) (Nat.le_of_ble_eq_true rfl) dX2_latestOf_46 ?_
        refine gen_i h (fun v_9 h => ?_)
        refine lv_istore_n (lv' := [(3, .int v_9), (0, .ref (ad 1)), (2, .int x2), (4, .int x4)]) hx hb dX2_latestOf_49 rfl hl (by decide) rfl (fun ls hl => ?_)
        refine lv_iinc (v := x4 + 1) (lv' := [(4, .int (x4 + 1)), (3, .int v_9), (0, .ref (ad 1)), (2, .int x2)]) hx hb dX2_latestOf_50 hl (k := 3) rfl rfl (by decide) rfl (fun ls hl => ?_)
        refine lv_goto (tgt := 17) hx hb dX2_latestOf_53 (by decide) ?_
        exact ih _ _ _ _ _ h hI (lv_sub hl [2, 3, 1, 0] rfl)
set_option maxHeartbeats 4000000 in
set_option maxRecDepth 100000 in
theorem c_X2_latestOf (l : Launch) (g : GP) (Y : va_W) (ad : Nat → Nat) (N : Nat) (x1 : Int32)  (st : St) {r : Int32} {st' : St} (h : f_X2_latestOf N st x1 = some (r, st')) : MetI l yX2_latestOf wsX2_latestOf rmX2_latestOf g (wCX g Y ad) [.ref (ad 1), .int x1] st (r) st' := by
  refine metI_of (cc := cX2_latestOf) (nL := 5) (ty := .int) (by decide) rfl (Nat.le_of_ble_eq_true rfl) rfl ?_
  intro p e s m below meth c Q A C hret H locs hI ls hl
  have C : Cx p s m _ c cX2_latestOf 5 wsX2_latestOf RX2 g A := C
  obtain ⟨hx, hb, hml, hown, hts⟩ := id C.1
  have hl : lv_has ls 5 [(0, .ref (ad 1)), (1, .int x1)] := hl
  rw [f_X2_latestOf] at h
  refine lv_aload_n hx hb dX2_latestOf_0 rfl (lv_at hl 0 rfl) ?_
  refine lv_iload_n hx hb dX2_latestOf_1 rfl (lv_at hl 1 rfl) ?_
  obtain ⟨r_2, st_3, hr_1, h⟩ := bd2_some h
  refine callV_I (rest := []) C hI (c_X2_laterThan l g Y ad N x1 st hr_1) (cwV 1 hts gX2_latestOf_X2_laterThan rfl rfl rfl hv_X2_laterThan ⟨Nat.le_of_ble_eq_true rfl, Nat.le_of_ble_eq_true rfl⟩) (w_recv C hI 1 at_G0 rfl) rfl hl.1 rfl (Nat.le_of_ble_eq_true rfl) dX2_latestOf_2 (fun H locs hI => ?_)
  refine lv_iconst (v := 1) hx hb dX2_latestOf_5 (by decide) ?_
  refine lv_iload_n hx hb dX2_latestOf_6 rfl (lv_at hl 1 rfl) ?_
  refine lv_ishl hx hb dX2_latestOf_7 ?_
  refine lv_ior hx hb dX2_latestOf_8 ?_
  refine gen_i h (fun v_4 h => ?_)
  refine lv_istore_n (lv' := [(2, .int v_4), (0, .ref (ad 1)), (1, .int x1)]) hx hb dX2_latestOf_9 rfl hl (by decide) rfl (fun ls hl => ?_)
  refine lv_sipush (v := 5000) hx hb dX2_latestOf_10 (by decide) ?_
  refine lv_istore_n (lv' := [(3, .int 5000), (2, .int v_4), (0, .ref (ad 1)), (1, .int x1)]) hx hb dX2_latestOf_13 rfl hl (by decide) rfl (fun ls hl => ?_)
  refine lv_iconst (v := 0) hx hb dX2_latestOf_14 (by decide) ?_
  refine lv_istore (lv' := [(4, .int 0), (3, .int 5000), (2, .int v_4), (0, .ref (ad 1)), (1, .int x1)]) hx hb dX2_latestOf_15 hl (by decide) rfl (fun ls hl => ?_)
  refine wl_X2_latestOf_L17 C hret N v_4 st_3 _ (fun a_10 a_11 H locs ls h hI hl => ?_) N 5000 0 H locs ls h hI (lv_sub hl [3, 2, 1, 0] rfl)
  refine lv_iload_n hx hb dX2_latestOf_56 rfl (lv_at hl 2 rfl) ?_
  obtain ⟨rfl, rfl⟩ := ret2 h
  exact hret H locs _ ls hI dX2_latestOf_57
theorem hv_X2_latestOf : yX2_latestOf.cls = RX2 ∧ yX2_latestOf.cls ≠ "java/lang/invoke/MethodHandle" ∧ yX2_latestOf.cls ≠ "java/lang/invoke/VarHandle" ∧ (parseMethodDescriptor yX2_latestOf.desc).map (fun d => d.parameters.length) = some 1 := by decide +kernel
/-! X2_leastEarliest -/
def rmX2_leastEarliest : Room := { frames := 4, cells := 0, slots := 0, locals := 92 }
def f_X2_leastEarliest_L6 (N : Nat) (x1 : Int32) (k : Int32 → Int32 → St → Option (Int32 × St)) : Nat → Int32 → Int32 → St → Option (Int32 × St)
  | 0, _, _, _ => none
  | n + 1, x2, x3, st => if st 13 0 ≤ x3 then k x2 x3 st else bnd (f_X5_isIn x1 x3) fun r_2 => if b2i r_2 = 0 then f_X2_leastEarliest_L6 N x1 k n x2 (x3 + 1) st else bd2 (f_X2_earliestOf N st x3) fun r_5 st_6 => bnd (imin x2 r_5) fun v_7 => f_X2_leastEarliest_L6 N x1 k n v_7 (x3 + 1) st_6
def f_X2_leastEarliest (N : Nat) (st : St) (x1 : Int32) : Option (Int32 × St) := f_X2_leastEarliest_L6 N x1 (fun a_8 a_9 st_10 => some (a_8, st_10)) N 5000 0 st
set_option maxHeartbeats 4000000 in
set_option maxRecDepth 100000 in
theorem wl_X2_leastEarliest_L6 {p : Program} {l : Launch} {e : Env} {s : State} {m : MethodId} {args : Array Value} {below : List Frame} {meth : Method} {c : Code} {Q : State → Prop} {A : Nat → Prop} {g : GP} {Y : va_W} {ad : Nat → Nat} {r : Int32} {st' : St} (C : Cx p s m args c cX2_leastEarliest 4 wsX2_leastEarliest RX2 g A) (hret : RetI p l e rmX2_leastEarliest s m args below meth c Q cX2_leastEarliest g A (wCX g Y ad st') (r)) (N : Nat) (x1 : Int32)  (k : Int32 → Int32 → St → Option (Int32 × St)) (hk : ∀ (x2 : Int32) (x3 : Int32) (st : St) (H : Heap) (locs : List Loc) (ls : Array Slot), k x2 x3 st = some (r, st') → IW g A s.heap (wCX g Y ad st) H locs → lv_has ls 4 [(0, .ref (ad 1)), (1, .int x1), (2, .int x2), (3, .int x3)] → W p l e rmX2_leastEarliest s m args below meth c H locs 0 0 Q (F0 m 38 ls [])) : ∀ (n : Nat) (x2 : Int32) (x3 : Int32) (st : St) (H : Heap) (locs : List Loc) (ls : Array Slot), f_X2_leastEarliest_L6 N x1 k n x2 x3 st = some (r, st') → IW g A s.heap (wCX g Y ad st) H locs → lv_has ls 4 [(0, .ref (ad 1)), (1, .int x1), (2, .int x2), (3, .int x3)] → W p l e rmX2_leastEarliest s m args below meth c H locs 0 0 Q (F0 m 6 ls []) := by
  obtain ⟨hx, hb, hml, hown, hts⟩ := id C.1
  have hinRX2 : ∀ w ∈ u_ws RX2 TX2 7, w ∈ wsX2_leastEarliest := by decide +kernel
  have lk41 := hts (.fieldLink RX2 41 "GraveRows$Ground" "size" "I") (by decide +kernel)
  have iniRX5 := hts (.initialized RX5) (by decide +kernel)
  have staX5_isIn := hts (.static yX5_isIn) (by decide +kernel)
  have ml89 := hts (.methodLink RX2 89 Lib.Math.min.name) (by decide +kernel)
  have msmin := hts (.static Lib.Math.min.name) (by decide +kernel)
  have mini := hts (.initialized "java/lang/Math") (by decide +kernel)
  have mcmin := hts (.code Lib.Math.min.name Lib.Math.min.code 2 (some .int)) (by decide +kernel)
  intro n
  induction n with
  | zero =>
    intro x2 x3 st H locs ls h hI hl
    rw [f_X2_leastEarliest_L6] at h
    cases h
  | succ n ih =>
    intro x2 x3 st H locs ls h hI hl
    rw [f_X2_leastEarliest_L6] at h
    refine lv_iload_n hx hb dX2_leastEarliest_6 rfl (lv_at hl 3 rfl) ?_
    refine lv_aload_n hx hb dX2_leastEarliest_7 rfl (lv_at hl 0 rfl) ?_
    refine w_get (v := .int (st 13 0)) C hinRX2 hI 1 at_G0 rfl 5 (by decide) lk41 rfl rfl dX2_leastEarliest_8 ?_
    refine lv_icmp_ge (tgt := 38) hx hb dX2_leastEarliest_11 (by decide) (fun c_1 => ?_) (fun c_1 => ?_)
    · replace h := (if_pos c_1).symm.trans h
      exact hk _ _ _ _ _ _ h hI (lv_sub hl [0, 1, 2, 3] rfl)
    · replace h := (if_neg c_1).symm.trans h
      refine lv_iload_n hx hb dX2_leastEarliest_14 rfl (lv_at hl 1 rfl) ?_
      refine lv_iload_n hx hb dX2_leastEarliest_15 rfl (lv_at hl 3 rfl) ?_
      refine callN_S (rest := []) C.1 (c_X5_isIn l x1 x3) ⟨va_cnB 2 hts gX2_leastEarliest_X5_isIn_n61 rfl rfl rfl C.2.2.1 iniRX5 hd_X5_isIn ⟨Nat.le_of_ble_eq_true rfl, Nat.le_of_ble_eq_true rfl⟩, staX5_isIn, trivial⟩ rfl hl.1 rfl (Nat.le_of_ble_eq_true rfl) dX2_leastEarliest_16 ?_
      refine gen_b h (fun r_2 h => ?_)
      refine lv_if_eq (tgt := 32) hx hb dX2_leastEarliest_19 (by decide) (fun c_3 => ?_) (fun c_3 => ?_)
      · replace h := (if_pos c_3).symm.trans h
        refine lv_iinc (v := x3 + 1) (lv' := [(3, .int (x3 + 1)), (0, .ref (ad 1)), (1, .int x1), (2, .int x2)]) hx hb dX2_leastEarliest_32 hl (k := 3) rfl rfl (by decide) rfl (fun ls hl => ?_)
        refine lv_goto (tgt := 6) hx hb dX2_leastEarliest_35 (by decide) ?_
        exact ih _ _ _ _ _ _ h hI (lv_sub hl [1, 2, 3, 0] rfl)
      · replace h := (if_neg c_3).symm.trans h
        refine lv_iload_n hx hb dX2_leastEarliest_22 rfl (lv_at hl 2 rfl) ?_
        refine lv_aload_n hx hb dX2_leastEarliest_23 rfl (lv_at hl 0 rfl) ?_
        refine lv_iload_n hx hb dX2_leastEarliest_24 rfl (lv_at hl 3 rfl) ?_
        obtain ⟨r_5, st_6, hr_4, h⟩ := bd2_some h
        refine callV_I (rest := [.int x2]) C hI (c_X2_earliestOf l g Y ad N x3 st hr_4) (cwV 1 hts gX2_leastEarliest_X2_earliestOf rfl rfl rfl hv_X2_earliestOf ⟨Nat.le_of_ble_eq_true rfl, Nat.le_of_ble_eq_true rfl⟩) (w_recv C hI 1 at_G0 rfl) rfl hl.1 rfl (Nat.le_of_ble_eq_true rfl) dX2_leastEarliest_25 (fun H locs hI => ?_)
        refine w_mmin hx hb (hml.trans hl.1.symm) hown ml89 msmin mini mcmin (Nat.le_of_ble_eq_true rfl) (Nat.le_of_ble_eq_true rfl) dX2_leastEarliest_28 ?_
        refine gen_i h (fun v_7 h => ?_)
        refine lv_istore_n (lv' := [(2, .int v_7), (0, .ref (ad 1)), (1, .int x1), (3, .int x3)]) hx hb dX2_leastEarliest_31 rfl hl (by decide) rfl (fun ls hl => ?_)
        refine lv_iinc (v := x3 + 1) (lv' := [(3, .int (x3 + 1)), (2, .int v_7), (0, .ref (ad 1)), (1, .int x1)]) hx hb dX2_leastEarliest_32 hl (k := 3) rfl rfl (by decide) rfl (fun ls hl => ?_)
        refine lv_goto (tgt := 6) hx hb dX2_leastEarliest_35 (by decide) ?_
        exact ih _ _ _ _ _ _ h hI (lv_sub hl [2, 3, 1, 0] rfl)
set_option maxHeartbeats 4000000 in
set_option maxRecDepth 100000 in
theorem c_X2_leastEarliest (l : Launch) (g : GP) (Y : va_W) (ad : Nat → Nat) (N : Nat) (x1 : Int32)  (st : St) {r : Int32} {st' : St} (h : f_X2_leastEarliest N st x1 = some (r, st')) : MetI l yX2_leastEarliest wsX2_leastEarliest rmX2_leastEarliest g (wCX g Y ad) [.ref (ad 1), .int x1] st (r) st' := by
  refine metI_of (cc := cX2_leastEarliest) (nL := 4) (ty := .int) (by decide) rfl (Nat.le_of_ble_eq_true rfl) rfl ?_
  intro p e s m below meth c Q A C hret H locs hI ls hl
  have C : Cx p s m _ c cX2_leastEarliest 4 wsX2_leastEarliest RX2 g A := C
  obtain ⟨hx, hb, hml, hown, hts⟩ := id C.1
  have hl : lv_has ls 4 [(0, .ref (ad 1)), (1, .int x1)] := hl
  rw [f_X2_leastEarliest] at h
  refine lv_sipush (v := 5000) hx hb dX2_leastEarliest_0 (by decide) ?_
  refine lv_istore_n (lv' := [(2, .int 5000), (0, .ref (ad 1)), (1, .int x1)]) hx hb dX2_leastEarliest_3 rfl hl (by decide) rfl (fun ls hl => ?_)
  refine lv_iconst (v := 0) hx hb dX2_leastEarliest_4 (by decide) ?_
  refine lv_istore_n (lv' := [(3, .int 0), (2, .int 5000), (0, .ref (ad 1)), (1, .int x1)]) hx hb dX2_leastEarliest_5 rfl hl (by decide) rfl (fun ls hl => ?_)
  refine wl_X2_leastEarliest_L6 C hret N x1 _ (fun a_8 a_9 st_10 H locs ls h hI hl => ?_) N 5000 0 st H locs ls h hI (lv_sub hl [2, 3, 1, 0] rfl)
  refine lv_iload_n hx hb dX2_leastEarliest_38 rfl (lv_at hl 2 rfl) ?_
  obtain ⟨rfl, rfl⟩ := ret2 h
  exact hret H locs _ ls hI dX2_leastEarliest_39
theorem hv_X2_leastEarliest : yX2_leastEarliest.cls = RX2 ∧ yX2_leastEarliest.cls ≠ "java/lang/invoke/MethodHandle" ∧ yX2_leastEarliest.cls ≠ "java/lang/invoke/VarHandle" ∧ (parseMethodDescriptor yX2_leastEarliest.desc).map (fun d => d.parameters.length) = some 1 := by decide +kernel
/-! X2_greatestLatest -/
def rmX2_greatestLatest : Room := { frames := 4, cells := 0, slots := 0, locals := 92 }
def f_X2_greatestLatest_L6 (N : Nat) (x1 : Int32) (k : Int32 → Int32 → St → Option (Int32 × St)) : Nat → Int32 → Int32 → St → Option (Int32 × St)
  | 0, _, _, _ => none
  | n + 1, x2, x3, st => if st 13 0 ≤ x3 then k x2 x3 st else bnd (f_X5_isIn x1 x3) fun r_2 => if b2i r_2 = 0 then f_X2_greatestLatest_L6 N x1 k n x2 (x3 + 1) st else bd2 (f_X2_latestOf N st x3) fun r_5 st_6 => bnd (imax x2 r_5) fun v_7 => f_X2_greatestLatest_L6 N x1 k n v_7 (x3 + 1) st_6
def f_X2_greatestLatest (N : Nat) (st : St) (x1 : Int32) : Option (Int32 × St) := f_X2_greatestLatest_L6 N x1 (fun a_8 a_9 st_10 => some (a_8, st_10)) N (-5000 : Int32) 0 st
set_option maxHeartbeats 4000000 in
set_option maxRecDepth 100000 in
theorem wl_X2_greatestLatest_L6 {p : Program} {l : Launch} {e : Env} {s : State} {m : MethodId} {args : Array Value} {below : List Frame} {meth : Method} {c : Code} {Q : State → Prop} {A : Nat → Prop} {g : GP} {Y : va_W} {ad : Nat → Nat} {r : Int32} {st' : St} (C : Cx p s m args c cX2_greatestLatest 4 wsX2_greatestLatest RX2 g A) (hret : RetI p l e rmX2_greatestLatest s m args below meth c Q cX2_greatestLatest g A (wCX g Y ad st') (r)) (N : Nat) (x1 : Int32)  (k : Int32 → Int32 → St → Option (Int32 × St)) (hk : ∀ (x2 : Int32) (x3 : Int32) (st : St) (H : Heap) (locs : List Loc) (ls : Array Slot), k x2 x3 st = some (r, st') → IW g A s.heap (wCX g Y ad st) H locs → lv_has ls 4 [(0, .ref (ad 1)), (1, .int x1), (2, .int x2), (3, .int x3)] → W p l e rmX2_greatestLatest s m args below meth c H locs 0 0 Q (F0 m 38 ls [])) : ∀ (n : Nat) (x2 : Int32) (x3 : Int32) (st : St) (H : Heap) (locs : List Loc) (ls : Array Slot), f_X2_greatestLatest_L6 N x1 k n x2 x3 st = some (r, st') → IW g A s.heap (wCX g Y ad st) H locs → lv_has ls 4 [(0, .ref (ad 1)), (1, .int x1), (2, .int x2), (3, .int x3)] → W p l e rmX2_greatestLatest s m args below meth c H locs 0 0 Q (F0 m 6 ls []) := by
  obtain ⟨hx, hb, hml, hown, hts⟩ := id C.1
  have hinRX2 : ∀ w ∈ u_ws RX2 TX2 7, w ∈ wsX2_greatestLatest := by decide +kernel
  have lk41 := hts (.fieldLink RX2 41 "GraveRows$Ground" "size" "I") (by decide +kernel)
  have iniRX5 := hts (.initialized RX5) (by decide +kernel)
  have staX5_isIn := hts (.static yX5_isIn) (by decide +kernel)
  have ml77 := hts (.methodLink RX2 77 Lib.Math.max.name) (by decide +kernel)
  have msmax := hts (.static Lib.Math.max.name) (by decide +kernel)
  have mini := hts (.initialized "java/lang/Math") (by decide +kernel)
  have mcmax := hts (.code Lib.Math.max.name Lib.Math.max.code 2 (some .int)) (by decide +kernel)
  intro n
  induction n with
  | zero =>
    intro x2 x3 st H locs ls h hI hl
    rw [f_X2_greatestLatest_L6] at h
    cases h
  | succ n ih =>
    intro x2 x3 st H locs ls h hI hl
    rw [f_X2_greatestLatest_L6] at h
    refine lv_iload_n hx hb dX2_greatestLatest_6 rfl (lv_at hl 3 rfl) ?_
    refine lv_aload_n hx hb dX2_greatestLatest_7 rfl (lv_at hl 0 rfl) ?_
    refine w_get (v := .int (st 13 0)) C hinRX2 hI 1 at_G0 rfl 5 (by decide) lk41 rfl rfl dX2_greatestLatest_8 ?_
    refine lv_icmp_ge (tgt := 38) hx hb dX2_greatestLatest_11 (by decide) (fun c_1 => ?_) (fun c_1 => ?_)
    · replace h := (if_pos c_1).symm.trans h
      exact hk _ _ _ _ _ _ h hI (lv_sub hl [0, 1, 2, 3] rfl)
    · replace h := (if_neg c_1).symm.trans h
      refine lv_iload_n hx hb dX2_greatestLatest_14 rfl (lv_at hl 1 rfl) ?_
      refine lv_iload_n hx hb dX2_greatestLatest_15 rfl (lv_at hl 3 rfl) ?_
      refine callN_S (rest := []) C.1 (c_X5_isIn l x1 x3) ⟨va_cnB 2 hts gX2_greatestLatest_X5_isIn_n61 rfl rfl rfl C.2.2.1 iniRX5 hd_X5_isIn ⟨Nat.le_of_ble_eq_true rfl, Nat.le_of_ble_eq_true rfl⟩, staX5_isIn, trivial⟩ rfl hl.1 rfl (Nat.le_of_ble_eq_true rfl) dX2_greatestLatest_16 ?_
      refine gen_b h (fun r_2 h => ?_)
      refine lv_if_eq (tgt := 32) hx hb dX2_greatestLatest_19 (by decide) (fun c_3 => ?_) (fun c_3 => ?_)
      · replace h := (if_pos c_3).symm.trans h
        refine lv_iinc (v := x3 + 1) (lv' := [(3, .int (x3 + 1)), (0, .ref (ad 1)), (1, .int x1), (2, .int x2)]) hx hb dX2_greatestLatest_32 hl (k := 3) rfl rfl (by decide) rfl (fun ls hl => ?_)
        refine lv_goto (tgt := 6) hx hb dX2_greatestLatest_35 (by decide) ?_
        exact ih _ _ _ _ _ _ h hI (lv_sub hl [1, 2, 3, 0] rfl)
      · replace h := (if_neg c_3).symm.trans h
        refine lv_iload_n hx hb dX2_greatestLatest_22 rfl (lv_at hl 2 rfl) ?_
        refine lv_aload_n hx hb dX2_greatestLatest_23 rfl (lv_at hl 0 rfl) ?_
        refine lv_iload_n hx hb dX2_greatestLatest_24 rfl (lv_at hl 3 rfl) ?_
        obtain ⟨r_5, st_6, hr_4, h⟩ := bd2_some h
        refine callV_I (rest := [.int x2]) C hI (c_X2_latestOf l g Y ad N x3 st hr_4) (cwV 1 hts gX2_greatestLatest_X2_latestOf rfl rfl rfl hv_X2_latestOf ⟨Nat.le_of_ble_eq_true rfl, Nat.le_of_ble_eq_true rfl⟩) (w_recv C hI 1 at_G0 rfl) rfl hl.1 rfl (Nat.le_of_ble_eq_true rfl) dX2_greatestLatest_25 (fun H locs hI => ?_)
        refine w_mmax hx hb (hml.trans hl.1.symm) hown ml77 msmax mini mcmax (Nat.le_of_ble_eq_true rfl) (Nat.le_of_ble_eq_true rfl) dX2_greatestLatest_28 ?_
        refine gen_i h (fun v_7 h => ?_)
        refine lv_istore_n (lv' := [(2, .int v_7), (0, .ref (ad 1)), (1, .int x1), (3, .int x3)]) hx hb dX2_greatestLatest_31 rfl hl (by decide) rfl (fun ls hl => ?_)
        refine lv_iinc (v := x3 + 1) (lv' := [(3, .int (x3 + 1)), (2, .int v_7), (0, .ref (ad 1)), (1, .int x1)]) hx hb dX2_greatestLatest_32 hl (k := 3) rfl rfl (by decide) rfl (fun ls hl => ?_)
        refine lv_goto (tgt := 6) hx hb dX2_greatestLatest_35 (by decide) ?_
        exact ih _ _ _ _ _ _ h hI (lv_sub hl [2, 3, 1, 0] rfl)
set_option maxHeartbeats 4000000 in
set_option maxRecDepth 100000 in
theorem c_X2_greatestLatest (l : Launch) (g : GP) (Y : va_W) (ad : Nat → Nat) (N : Nat) (x1 : Int32)  (st : St) {r : Int32} {st' : St} (h : f_X2_greatestLatest N st x1 = some (r, st')) : MetI l yX2_greatestLatest wsX2_greatestLatest rmX2_greatestLatest g (wCX g Y ad) [.ref (ad 1), .int x1] st (r) st' := by
  refine metI_of (cc := cX2_greatestLatest) (nL := 4) (ty := .int) (by decide) rfl (Nat.le_of_ble_eq_true rfl) rfl ?_
  intro p e s m below meth c Q A C hret H locs hI ls hl
  have C : Cx p s m _ c cX2_greatestLatest 4 wsX2_greatestLatest RX2 g A := C
  obtain ⟨hx, hb, hml, hown, hts⟩ := id C.1
  have hl : lv_has ls 4 [(0, .ref (ad 1)), (1, .int x1)] := hl
  rw [f_X2_greatestLatest] at h
  refine lv_sipush (v := (-5000)) hx hb dX2_greatestLatest_0 (by decide) ?_
  refine lv_istore_n (lv' := [(2, .int (-5000 : Int32)), (0, .ref (ad 1)), (1, .int x1)]) hx hb dX2_greatestLatest_3 rfl hl (by decide) rfl (fun ls hl => ?_)
  refine lv_iconst (v := 0) hx hb dX2_greatestLatest_4 (by decide) ?_
  refine lv_istore_n (lv' := [(3, .int 0), (2, .int (-5000 : Int32)), (0, .ref (ad 1)), (1, .int x1)]) hx hb dX2_greatestLatest_5 rfl hl (by decide) rfl (fun ls hl => ?_)
  refine wl_X2_greatestLatest_L6 C hret N x1 _ (fun a_8 a_9 st_10 H locs ls h hI hl => ?_) N (-5000 : Int32) 0 st H locs ls h hI (lv_sub hl [2, 3, 1, 0] rfl)
  refine lv_iload_n hx hb dX2_greatestLatest_38 rfl (lv_at hl 2 rfl) ?_
  obtain ⟨rfl, rfl⟩ := ret2 h
  exact hret H locs _ ls hI dX2_greatestLatest_39
theorem hv_X2_greatestLatest : yX2_greatestLatest.cls = RX2 ∧ yX2_greatestLatest.cls ≠ "java/lang/invoke/MethodHandle" ∧ yX2_greatestLatest.cls ≠ "java/lang/invoke/VarHandle" ∧ (parseMethodDescriptor yX2_greatestLatest.desc).map (fun d => d.parameters.length) = some 1 := by decide +kernel
/-! X2_havers -/
def rmX2_havers : Room := { frames := 1, cells := 0, slots := 0, locals := 21 }
def f_X2_havers_L4 (N : Nat) (x1 : Int32) (st : St) (k : Int32 → Int32 → Option (Int32)) : Nat → Int32 → Int32 → Option (Int32)
  | 0, _, _ => none
  | n + 1, x2, x3 => if st 13 0 ≤ x3 then k x2 x3 else ck 10 x3 fun j_2 => bnd (f_X5_isIn (st 3 j_2) x1) fun r_3 => if b2i r_3 = 0 then f_X2_havers_L4 N x1 st k n x2 (x3 + 1) else bnd (x2 ||| ((1 : Int32) <<< (x3 &&& 31))) fun v_5 => f_X2_havers_L4 N x1 st k n v_5 (x3 + 1)
def f_X2_havers (N : Nat) (st : St) (x1 : Int32) : Option (Int32) := f_X2_havers_L4 N x1 st (fun a_6 a_7 => some a_6) N 0 0
set_option maxHeartbeats 4000000 in
set_option maxRecDepth 100000 in
theorem wl_X2_havers_L4 {p : Program} {l : Launch} {e : Env} {s : State} {m : MethodId} {args : Array Value} {below : List Frame} {meth : Method} {c : Code} {Q : State → Prop} {A : Nat → Prop} {g : GP} {Y : va_W} {ad : Nat → Nat} {r : Int32}  (C : Cx p s m args c cX2_havers 4 wsX2_havers RX2 g A) (st : St) (hret : RetI p l e rmX2_havers s m args below meth c Q cX2_havers g A (wCX g Y ad st) (r)) (N : Nat) (x1 : Int32)  (k : Int32 → Int32 → Option (Int32)) (hk : ∀ (x2 : Int32) (x3 : Int32) (H : Heap) (locs : List Loc) (ls : Array Slot), k x2 x3 = some r → IW g A s.heap (wCX g Y ad st) H locs → lv_has ls 4 [(0, .ref (ad 1)), (1, .int x1), (2, .int x2), (3, .int x3)] → W p l e rmX2_havers s m args below meth c H locs 0 0 Q (F0 m 40 ls [])) : ∀ (n : Nat) (x2 : Int32) (x3 : Int32) (H : Heap) (locs : List Loc) (ls : Array Slot), f_X2_havers_L4 N x1 st k n x2 x3 = some r → IW g A s.heap (wCX g Y ad st) H locs → lv_has ls 4 [(0, .ref (ad 1)), (1, .int x1), (2, .int x2), (3, .int x3)] → W p l e rmX2_havers s m args below meth c H locs 0 0 Q (F0 m 4 ls []) := by
  obtain ⟨hx, hb, hml, hown, hts⟩ := id C.1
  have hinRX2 : ∀ w ∈ u_ws RX2 TX2 7, w ∈ wsX2_havers := by decide +kernel
  have lk41 := hts (.fieldLink RX2 41 "GraveRows$Ground" "size" "I") (by decide +kernel)
  have lk11 := hts (.fieldLink RX2 11 "GraveRows$Ground" "graves" "[LGraveRows$Grave;") (by decide +kernel)
  have hinRX1 : ∀ w ∈ u_ws RX1 TX1 9, w ∈ wsX2_havers := by decide +kernel
  have lk98 := hts (.fieldLink RX2 98 "GraveRows$Grave" "goods" "I") (by decide +kernel)
  have iniRX5 := hts (.initialized RX5) (by decide +kernel)
  have staX5_isIn := hts (.static yX5_isIn) (by decide +kernel)
  intro n
  induction n with
  | zero =>
    intro x2 x3 H locs ls h hI hl
    rw [f_X2_havers_L4] at h
    cases h
  | succ n ih =>
    intro x2 x3 H locs ls h hI hl
    rw [f_X2_havers_L4] at h
    refine lv_iload_n hx hb dX2_havers_4 rfl (lv_at hl 3 rfl) ?_
    refine lv_aload_n hx hb dX2_havers_5 rfl (lv_at hl 0 rfl) ?_
    refine w_get (v := .int (st 13 0)) C hinRX2 hI 1 at_G0 rfl 5 (by decide) lk41 rfl rfl dX2_havers_6 ?_
    refine lv_icmp_ge (tgt := 40) hx hb dX2_havers_9 (by decide) (fun c_1 => ?_) (fun c_1 => ?_)
    · replace h := (if_pos c_1).symm.trans h
      exact hk _ _ _ _ _ h hI (lv_sub hl [0, 1, 2, 3] rfl)
    · replace h := (if_neg c_1).symm.trans h
      refine lv_aload_n hx hb dX2_havers_12 rfl (lv_at hl 0 rfl) ?_
      refine w_get (v := .ref (ad 2)) C hinRX2 hI 1 at_G0 rfl 0 (by decide) lk11 rfl rfl dX2_havers_13 ?_
      refine lv_iload_n hx hb dX2_havers_16 rfl (lv_at hl 3 rfl) ?_
      refine w_ald (t0 := 2) (fa := fun j => ad (7 + j)) C hI 2 ra_2 rfl (fun _ => rfl) h dX2_havers_17 (fun j_2 hj_2 h => ?_)
      refine w_get (v := .int (st 3 j_2)) C hinRX1 hI (7 + j_2) (at_V0 hj_2) rfl 3 (by decide) lk98 rfl rfl dX2_havers_18 ?_
      refine lv_iload_n hx hb dX2_havers_21 rfl (lv_at hl 1 rfl) ?_
      refine callN_S (rest := []) C.1 (c_X5_isIn l (st 3 j_2) x1) ⟨va_cnB 2 hts gX2_havers_X5_isIn_n61 rfl rfl rfl C.2.2.1 iniRX5 hd_X5_isIn ⟨Nat.le_of_ble_eq_true rfl, Nat.le_of_ble_eq_true rfl⟩, staX5_isIn, trivial⟩ rfl hl.1 rfl (Nat.le_of_ble_eq_true rfl) dX2_havers_22 ?_
      refine gen_b h (fun r_3 h => ?_)
      refine lv_if_eq (tgt := 34) hx hb dX2_havers_25 (by decide) (fun c_4 => ?_) (fun c_4 => ?_)
      · replace h := (if_pos c_4).symm.trans h
        refine lv_iinc (v := x3 + 1) (lv' := [(3, .int (x3 + 1)), (0, .ref (ad 1)), (1, .int x1), (2, .int x2)]) hx hb dX2_havers_34 hl (k := 3) rfl rfl (by decide) rfl (fun ls hl => ?_)
        refine lv_goto (tgt := 4) hx hb dX2_havers_37 (by decide) ?_
        exact ih _ _ _ _ _ h hI (lv_sub hl [1, 2, 3, 0] rfl)
      · replace h := (if_neg c_4).symm.trans h
        refine lv_iload_n hx hb dX2_havers_28 rfl (lv_at hl 2 rfl) ?_
        refine lv_iconst (v := 1) hx hb dX2_havers_29 (by decide) ?_
        refine lv_iload_n hx hb dX2_havers_30 rfl (lv_at hl 3 rfl) ?_
        refine lv_ishl hx hb dX2_havers_31 ?_
        refine lv_ior hx hb dX2_havers_32 ?_
        refine gen_i h (fun v_5 h => ?_)
        refine lv_istore_n (lv' := [(2, .int v_5), (0, .ref (ad 1)), (1, .int x1), (3, .int x3)]) hx hb dX2_havers_33 rfl hl (by decide) rfl (fun ls hl => ?_)
        refine lv_iinc (v := x3 + 1) (lv' := [(3, .int (x3 + 1)), (2, .int v_5), (0, .ref (ad 1)), (1, .int x1)]) hx hb dX2_havers_34 hl (k := 3) rfl rfl (by decide) rfl (fun ls hl => ?_)
        refine lv_goto (tgt := 4) hx hb dX2_havers_37 (by decide) ?_
        exact ih _ _ _ _ _ h hI (lv_sub hl [2, 3, 1, 0] rfl)
set_option maxHeartbeats 4000000 in
set_option maxRecDepth 100000 in
theorem c_X2_havers (l : Launch) (g : GP) (Y : va_W) (ad : Nat → Nat) (N : Nat) (x1 : Int32)  (st : St) {r : Int32}  (h : f_X2_havers N st x1 = some r) : MetI l yX2_havers wsX2_havers rmX2_havers g (wCX g Y ad) [.ref (ad 1), .int x1] st (r) st := by
  refine metI_of (cc := cX2_havers) (nL := 4) (ty := .int) (by decide) rfl (Nat.le_of_ble_eq_true rfl) rfl ?_
  intro p e s m below meth c Q A C hret H locs hI ls hl
  have C : Cx p s m _ c cX2_havers 4 wsX2_havers RX2 g A := C
  obtain ⟨hx, hb, hml, hown, hts⟩ := id C.1
  have hl : lv_has ls 4 [(0, .ref (ad 1)), (1, .int x1)] := hl
  rw [f_X2_havers] at h
  refine lv_iconst (v := 0) hx hb dX2_havers_0 (by decide) ?_
  refine lv_istore_n (lv' := [(2, .int 0), (0, .ref (ad 1)), (1, .int x1)]) hx hb dX2_havers_1 rfl hl (by decide) rfl (fun ls hl => ?_)
  refine lv_iconst (v := 0) hx hb dX2_havers_2 (by decide) ?_
  refine lv_istore_n (lv' := [(3, .int 0), (2, .int 0), (0, .ref (ad 1)), (1, .int x1)]) hx hb dX2_havers_3 rfl hl (by decide) rfl (fun ls hl => ?_)
  refine wl_X2_havers_L4 C st hret N x1 _ (fun a_6 a_7 H locs ls h hI hl => ?_) N 0 0 H locs ls h hI (lv_sub hl [2, 3, 1, 0] rfl)
  refine lv_iload_n hx hb dX2_havers_40 rfl (lv_at hl 2 rfl) ?_
  obtain rfl := ret1 h
  exact hret H locs _ ls hI dX2_havers_41
theorem hv_X2_havers : yX2_havers.cls = RX2 ∧ yX2_havers.cls ≠ "java/lang/invoke/MethodHandle" ∧ yX2_havers.cls ≠ "java/lang/invoke/VarHandle" ∧ (parseMethodDescriptor yX2_havers.desc).map (fun d => d.parameters.length) = some 1 := by decide +kernel
