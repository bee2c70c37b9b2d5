/-! X5_commonDivisor -/
def rmX5_commonDivisor : Room := { frames := 0, cells := 0, slots := 0, locals := 0 }
def f_X5_commonDivisor_L2 (N : Nat) (x0 : Int32) (x1 : Int32) (k : Int32 → Option (Int32)) : Nat → Int32 → Option (Int32)
  | 0, _ => none
  | n + 1, x2 => if x2 ≤ 1 then k x2 else nz x2 <| if x0 - x0 / x2 * x2 = 0 then nz x2 <| if x1 - x1 / x2 * x2 = 0 then some x2 else f_X5_commonDivisor_L2 N x0 x1 k n (x2 + (-1)) else f_X5_commonDivisor_L2 N x0 x1 k n (x2 + (-1))
def f_X5_commonDivisor (N : Nat) (x0 : Int32) (x1 : Int32) : Option (Int32) := f_X5_commonDivisor_L2 N x0 x1 (fun a_6 => some 1) N x1
set_option maxHeartbeats 4000000 in
set_option maxRecDepth 100000 in
theorem wl_X5_commonDivisor_L2 {p : Program} {l : Launch} {e : Env} {s : State} {m : MethodId} {args : Array Value} {below : List Frame} {meth : Method} {c : Code} {Q : State → Prop} {r : Int32}  (C : CallFix p m c cX5_commonDivisor 3 s args wsX5_commonDivisor RX5) (hret : RetS p l e rmX5_commonDivisor s m args below meth c Q cX5_commonDivisor (r)) (N : Nat) (x0 : Int32) (x1 : Int32)  (k : Int32 → Option (Int32)) (hk : ∀ (x2 : Int32) (ls : Array Slot), k x2 = some r → lv_has ls 3 [(0, .int x0), (1, .int x1), (2, .int x2)] → W p l e rmX5_commonDivisor s m args below meth c s.heap [] 0 0 Q (F0 m 27 ls [])) : ∀ (n : Nat) (x2 : Int32) (ls : Array Slot), f_X5_commonDivisor_L2 N x0 x1 k n x2 = some r → lv_has ls 3 [(0, .int x0), (1, .int x1), (2, .int x2)] → W p l e rmX5_commonDivisor s m args below meth c s.heap [] 0 0 Q (F0 m 2 ls []) := by
  obtain ⟨hx, hb, hml, hown, hts⟩ := id C
  intro n
  induction n with
  | zero =>
    intro x2 ls h hl
    rw [f_X5_commonDivisor_L2] at h
    cases h
  | succ n ih =>
    intro x2 ls h hl
    rw [f_X5_commonDivisor_L2] at h
    refine lv_iload_n hx hb dX5_commonDivisor_2 rfl (lv_at hl 2 rfl) ?_
    refine lv_iconst (v := 1) hx hb dX5_commonDivisor_3 (by decide) ?_
    refine lv_icmp_le (tgt := 27) hx hb dX5_commonDivisor_4 (by decide) (fun c_1 => ?_) (fun c_1 => ?_)
    · replace h := (if_pos c_1).symm.trans h
      exact hk _ _ h (lv_sub hl [0, 1, 2] rfl)
    · replace h := (if_neg c_1).symm.trans h
      refine lv_iload_n hx hb dX5_commonDivisor_7 rfl (lv_at hl 0 rfl) ?_
      refine lv_iload_n hx hb dX5_commonDivisor_8 rfl (lv_at hl 2 rfl) ?_
      obtain ⟨hz_2, h⟩ := nz_some h
      refine lv_irem hx hb dX5_commonDivisor_9 hz_2 ?_
      refine lv_if_ne (tgt := 21) hx hb dX5_commonDivisor_10 (by decide) (fun c_3 => ?_) (fun c_3 => ?_)
      · replace h := (if_neg c_3).symm.trans h
        refine lv_iinc (v := x2 + (-1)) (lv' := [(2, .int (x2 + (-1))), (0, .int x0), (1, .int x1)]) hx hb dX5_commonDivisor_21 hl (k := 2) rfl rfl (by decide) rfl (fun ls hl => ?_)
        refine lv_goto (tgt := 2) hx hb dX5_commonDivisor_24 (by decide) ?_
        exact ih _ _ h (lv_sub hl [1, 2, 0] rfl)
      · replace h := (if_pos c_3).symm.trans h
        refine lv_iload_n hx hb dX5_commonDivisor_13 rfl (lv_at hl 1 rfl) ?_
        refine lv_iload_n hx hb dX5_commonDivisor_14 rfl (lv_at hl 2 rfl) ?_
        obtain ⟨hz_4, h⟩ := nz_some h
        refine lv_irem hx hb dX5_commonDivisor_15 hz_4 ?_
        refine lv_if_ne (tgt := 21) hx hb dX5_commonDivisor_16 (by decide) (fun c_5 => ?_) (fun c_5 => ?_)
        · replace h := (if_neg c_5).symm.trans h
          refine lv_iinc (v := x2 + (-1)) (lv' := [(2, .int (x2 + (-1))), (0, .int x0), (1, .int x1)]) hx hb dX5_commonDivisor_21 hl (k := 2) rfl rfl (by decide) rfl (fun ls hl => ?_)
          refine lv_goto (tgt := 2) hx hb dX5_commonDivisor_24 (by decide) ?_
          exact ih _ _ h (lv_sub hl [1, 2, 0] rfl)
        · replace h := (if_pos c_5).symm.trans h
          refine lv_iload_n hx hb dX5_commonDivisor_19 rfl (lv_at hl 2 rfl) ?_
          obtain rfl := ret1 h
          exact hret _ ls dX5_commonDivisor_20
set_option maxHeartbeats 4000000 in
set_option maxRecDepth 100000 in
theorem c_X5_commonDivisor (l : Launch) (N : Nat) (x0 : Int32) (x1 : Int32) {r : Int32}  (h : f_X5_commonDivisor N x0 x1 = some r) : MetS l yX5_commonDivisor wsX5_commonDivisor rmX5_commonDivisor [.int x0, .int x1] (r) := by
  refine metS_of (cc := cX5_commonDivisor) (nL := 3) (ty := .int) (by decide) rfl (Nat.le_of_ble_eq_true rfl) rfl ?_
  intro p e s m below meth c Q C hret ls hl
  have C : CallFix p m c cX5_commonDivisor 3 s _ wsX5_commonDivisor RX5 := C
  obtain ⟨hx, hb, hml, hown, hts⟩ := id C
  have hl : lv_has ls 3 [(0, .int x0), (1, .int x1)] := hl
  rw [f_X5_commonDivisor] at h
  refine lv_iload_n hx hb dX5_commonDivisor_0 rfl (lv_at hl 1 rfl) ?_
  refine lv_istore_n (lv' := [(2, .int x1), (0, .int x0), (1, .int x1)]) hx hb dX5_commonDivisor_1 rfl hl (by decide) rfl (fun ls hl => ?_)
  refine wl_X5_commonDivisor_L2 C hret N x0 x1 _ (fun a_6 ls h hl => ?_) N x1 ls h (lv_sub hl [1, 2, 0] rfl)
  refine lv_iconst (v := 1) hx hb dX5_commonDivisor_27 (by decide) ?_
  obtain rfl := ret1 h
  exact hret _ ls dX5_commonDivisor_28
theorem hd_X5_commonDivisor : yX5_commonDivisor.cls ≠ "java/lang/invoke/MethodHandle" ∧ yX5_commonDivisor.cls ≠ "java/lang/invoke/VarHandle" ∧ (parseMethodDescriptor yX5_commonDivisor.desc).map (fun d => d.parameters.length) = some 2 := by decide +kernel
/-! X5_like -/
def rmX5_like : Room := { frames := 2, cells := 0, slots := 0, locals := 46 }
def f_X5_like (N : Nat) (st : St) (x1 : Int32) (x2 : Int32) (x3 : Bool) : Option (Int32 × St) := bnd (f_X2_holds st x1) fun r_1 => if b2i r_1 = 0 then bd2 (f_X5_finding st (-100001 : Int32)) fun r_4 st_5 => some (r_4, st_5) else bnd (f_X2_holds st x2) fun r_6 => if b2i r_6 = 0 then bd2 (f_X5_finding st (-100001 : Int32)) fun r_18 st_19 => some (r_18, st_19) else bd1 (f_X2_sharedGoods st x1 x2) fun r_9 => bd1 (f_X2_joinedGoods st x1 x2) fun r_11 => bd1 (f_X5_commonDivisor N r_9 r_11) fun r_13 => if b2i x3 = 0 then nz r_13 <| some (r_9 / r_13, st) else nz r_13 <| some (r_11 / r_13, st)
set_option maxHeartbeats 4000000 in
set_option maxRecDepth 100000 in
theorem c_X5_like (l : Launch) (g : GP) (Y : va_W) (ad : Nat → Nat) (N : Nat) (x1 : Int32) (x2 : Int32) (x3 : Bool)  (st : St) {r : Int32} {st' : St} (h : f_X5_like N st x1 x2 x3 = some (r, st')) : MetI l yX5_like wsX5_like rmX5_like g (wCX g Y ad) [.ref (ad 0), .int x1, .int x2, .int (b2i x3)] st (r) st' := by
  refine metI_of (cc := cX5_like) (nL := 7) (ty := .int) (by decide) rfl (Nat.le_of_ble_eq_true rfl) rfl ?_
  intro p e s m below meth c Q A C hret H locs hI ls hl
  have C : Cx p s m _ c cX5_like 7 wsX5_like RX5 g A := C
  obtain ⟨hx, hb, hml, hown, hts⟩ := id C.1
  have hl : lv_has ls 7 [(0, .ref (ad 0)), (1, .int x1), (2, .int x2), (3, .int (b2i x3))] := hl
  have hinRX5 : ∀ w ∈ u_ws RX5 TX5 7, w ∈ wsX5_like := by decide +kernel
  have lk12 := hts (.fieldLink RX5 12 "GraveRows" "ground" "LGraveRows$Ground;") (by decide +kernel)
  have lc47 := hts (.constant RX5 47 (-100001)) (by decide +kernel)
  rw [f_X5_like] at h
  refine lv_aload_n hx hb dX5_like_0 rfl (lv_at hl 0 rfl) ?_
  refine w_get (v := .ref (ad 1)) C hinRX5 hI 0 at_C rfl 0 (by decide) lk12 rfl rfl dX5_like_1 ?_
  refine lv_iload_n hx hb dX5_like_4 rfl (lv_at hl 1 rfl) ?_
  refine callV_I (rest := []) C hI (c_X2_holds l g Y ad x1 st) (cwV 1 hts gX5_like_X2_holds rfl rfl rfl hv_X2_holds ⟨Nat.le_of_ble_eq_true rfl, Nat.le_of_ble_eq_true rfl⟩) (w_recv C hI 1 at_G0 rfl) rfl hl.1 rfl (Nat.le_of_ble_eq_true rfl) dX5_like_5 (fun H locs hI => ?_)
  refine gen_b h (fun r_1 h => ?_)
  refine lv_if_eq (tgt := 22) hx hb dX5_like_8 (by decide) (fun c_2 => ?_) (fun c_2 => ?_)
  · replace h := (if_pos c_2).symm.trans h
    refine lv_aload_n hx hb dX5_like_22 rfl (lv_at hl 0 rfl) ?_
    refine lv_ldc (v := (-100001)) hx hb hown lc47 dX5_like_23 ?_
    obtain ⟨r_4, st_5, hr_3, h⟩ := bd2_some h
    refine callV_I (rest := []) C hI (c_X5_finding l g Y ad (-100001 : Int32) st hr_3) (cwV 1 hts gX5_like_X5_finding rfl rfl rfl hv_X5_finding ⟨Nat.le_of_ble_eq_true rfl, Nat.le_of_ble_eq_true rfl⟩) (w_recv C hI 0 at_C rfl) rfl hl.1 rfl (Nat.le_of_ble_eq_true rfl) dX5_like_25 (fun H locs hI => ?_)
    obtain ⟨rfl, rfl⟩ := ret2 h
    exact hret H locs _ ls hI dX5_like_28
  · replace h := (if_neg c_2).symm.trans h
    refine lv_aload_n hx hb dX5_like_11 rfl (lv_at hl 0 rfl) ?_
    refine w_get (v := .ref (ad 1)) C hinRX5 hI 0 at_C rfl 0 (by decide) lk12 rfl rfl dX5_like_12 ?_
    refine lv_iload_n hx hb dX5_like_15 rfl (lv_at hl 2 rfl) ?_
    refine callV_I (rest := []) C hI (c_X2_holds l g Y ad x2 st) (cwV 1 hts gX5_like_X2_holds rfl rfl rfl hv_X2_holds ⟨Nat.le_of_ble_eq_true rfl, Nat.le_of_ble_eq_true rfl⟩) (w_recv C hI 1 at_G0 rfl) rfl hl.1 rfl (Nat.le_of_ble_eq_true rfl) dX5_like_16 (fun H locs hI => ?_)
    refine gen_b h (fun r_6 h => ?_)
    refine lv_if_ne (tgt := 29) hx hb dX5_like_19 (by decide) (fun c_7 => ?_) (fun c_7 => ?_)
    · replace h := (if_neg c_7).symm.trans h
      refine lv_aload_n hx hb dX5_like_29 rfl (lv_at hl 0 rfl) ?_
      refine w_get (v := .ref (ad 1)) C hinRX5 hI 0 at_C rfl 0 (by decide) lk12 rfl rfl dX5_like_30 ?_
      refine lv_iload_n hx hb dX5_like_33 rfl (lv_at hl 1 rfl) ?_
      refine lv_iload_n hx hb dX5_like_34 rfl (lv_at hl 2 rfl) ?_
      obtain ⟨r_9, hr_8, h⟩ := bd1_some h
      refine callV_I (rest := []) C hI (c_X2_sharedGoods l g Y ad x1 x2 st hr_8) (cwV 2 hts gX5_like_X2_sharedGoods rfl rfl rfl hv_X2_sharedGoods ⟨Nat.le_of_ble_eq_true rfl, Nat.le_of_ble_eq_true rfl⟩) (w_recv C hI 1 at_G0 rfl) rfl hl.1 rfl (Nat.le_of_ble_eq_true rfl) dX5_like_35 (fun H locs hI => ?_)
      refine lv_istore (lv' := [(4, .int r_9), (0, .ref (ad 0)), (1, .int x1), (2, .int x2), (3, .int (b2i x3))]) hx hb dX5_like_38 hl (by decide) rfl (fun ls hl => ?_)
      refine lv_aload_n hx hb dX5_like_40 rfl (lv_at hl 1 rfl) ?_
      refine w_get (v := .ref (ad 1)) C hinRX5 hI 0 at_C rfl 0 (by decide) lk12 rfl rfl dX5_like_41 ?_
      refine lv_iload_n hx hb dX5_like_44 rfl (lv_at hl 2 rfl) ?_
      refine lv_iload_n hx hb dX5_like_45 rfl (lv_at hl 3 rfl) ?_
      obtain ⟨r_11, hr_10, h⟩ := bd1_some h
      refine callV_I (rest := []) C hI (c_X2_joinedGoods l g Y ad x1 x2 st hr_10) (cwV 2 hts gX5_like_X2_joinedGoods rfl rfl rfl hv_X2_joinedGoods ⟨Nat.le_of_ble_eq_true rfl, Nat.le_of_ble_eq_true rfl⟩) (w_recv C hI 1 at_G0 rfl) rfl hl.1 rfl (Nat.le_of_ble_eq_true rfl) dX5_like_46 (fun H locs hI => ?_)
      refine lv_istore (lv' := [(5, .int r_11), (4, .int r_9), (0, .ref (ad 0)), (1, .int x1), (2, .int x2), (3, .int (b2i x3))]) hx hb dX5_like_49 hl (by decide) rfl (fun ls hl => ?_)
      refine lv_iload hx hb dX5_like_51 (lv_at hl 1 rfl) ?_
      refine lv_iload hx hb dX5_like_53 (lv_at hl 0 rfl) ?_
      obtain ⟨r_13, hr_12, h⟩ := bd1_some h
      refine callS_S (rest := []) C.1 (c_X5_commonDivisor l N r_9 r_11 hr_12) (va_cwS 2 hts gX5_like_X5_commonDivisor rfl rfl rfl hd_X5_commonDivisor ⟨Nat.le_of_ble_eq_true rfl, Nat.le_of_ble_eq_true rfl⟩) rfl hl.1 rfl (Nat.le_of_ble_eq_true rfl) dX5_like_55 ?_
      refine lv_istore (lv' := [(6, .int r_13), (5, .int r_11), (4, .int r_9), (0, .ref (ad 0)), (1, .int x1), (2, .int x2), (3, .int (b2i x3))]) hx hb dX5_like_58 hl (by decide) rfl (fun ls hl => ?_)
      refine lv_iload_n hx hb dX5_like_60 rfl (lv_at hl 6 rfl) ?_
      refine lv_if_eq (tgt := 69) hx hb dX5_like_61 (by decide) (fun c_14 => ?_) (fun c_14 => ?_)
      · replace h := (if_pos c_14).symm.trans h
        refine lv_iload hx hb dX5_like_69 (lv_at hl 2 rfl) ?_
        refine lv_iload hx hb dX5_like_71 (lv_at hl 0 rfl) ?_
        obtain ⟨hz_15, h⟩ := nz_some h
        refine lv_idiv hx hb dX5_like_73 hz_15 ?_
        obtain ⟨rfl, rfl⟩ := ret2 h
        exact hret H locs _ ls hI dX5_like_74
      · replace h := (if_neg c_14).symm.trans h
        refine lv_iload hx hb dX5_like_64 (lv_at hl 1 rfl) ?_
        refine lv_goto (tgt := 71) hx hb dX5_like_66 (by decide) ?_
        refine lv_iload hx hb dX5_like_71 (lv_at hl 0 rfl) ?_
        obtain ⟨hz_16, h⟩ := nz_some h
        refine lv_idiv hx hb dX5_like_73 hz_16 ?_
        obtain ⟨rfl, rfl⟩ := ret2 h
        exact hret H locs _ ls hI dX5_like_74
    · replace h := (if_pos c_7).symm.trans h
      refine lv_aload_n hx hb dX5_like_22 rfl (lv_at hl 0 rfl) ?_
      refine lv_ldc (v := (-100001)) hx hb hown lc47 dX5_like_23 ?_
      obtain ⟨r_18, st_19, hr_17, h⟩ := bd2_some h
      refine callV_I (rest := []) C hI (c_X5_finding l g Y ad (-100001 : Int32) st hr_17) (cwV 1 hts gX5_like_X5_finding rfl rfl rfl hv_X5_finding ⟨Nat.le_of_ble_eq_true rfl, Nat.le_of_ble_eq_true rfl⟩) (w_recv C hI 0 at_C rfl) rfl hl.1 rfl (Nat.le_of_ble_eq_true rfl) dX5_like_25 (fun H locs hI => ?_)
      obtain ⟨rfl, rfl⟩ := ret2 h
      exact hret H locs _ ls hI dX5_like_28
theorem hv_X5_like : yX5_like.cls = RX5 ∧ yX5_like.cls ≠ "java/lang/invoke/MethodHandle" ∧ yX5_like.cls ≠ "java/lang/invoke/VarHandle" ∧ (parseMethodDescriptor yX5_like.desc).map (fun d => d.parameters.length) = some 3 := by decide +kernel
/-! X5_nearest -/
def rmX5_nearest : Room := { frames := 3, cells := 0, slots := 0, locals := 73 }
def f_X5_nearest (N : Nat) (st : St) (x1 : Int32) : Option (Int32 × St) := bnd (f_X2_holds st x1) fun r_1 => if b2i r_1 = 0 then bd2 (f_X5_finding st (-100001 : Int32)) fun r_10 st_11 => some (r_10, st_11) else if 2 ≤ st 13 0 then bd1 (f_X2_mostLike N st x1) fun r_5 => some (r_5, st) else bd2 (f_X5_finding st (-100006 : Int32)) fun r_7 st_8 => some (r_7, st_8)
set_option maxHeartbeats 4000000 in
set_option maxRecDepth 100000 in
theorem c_X5_nearest (l : Launch) (g : GP) (Y : va_W) (ad : Nat → Nat) (N : Nat) (x1 : Int32)  (st : St) {r : Int32} {st' : St} (h : f_X5_nearest N st x1 = some (r, st')) : MetI l yX5_nearest wsX5_nearest rmX5_nearest g (wCX g Y ad) [.ref (ad 0), .int x1] st (r) st' := by
  refine metI_of (cc := cX5_nearest) (nL := 2) (ty := .int) (by decide) rfl (Nat.le_of_ble_eq_true rfl) rfl ?_
  intro p e s m below meth c Q A C hret H locs hI ls hl
  have C : Cx p s m _ c cX5_nearest 2 wsX5_nearest RX5 g A := C
  obtain ⟨hx, hb, hml, hown, hts⟩ := id C.1
  have hl : lv_has ls 2 [(0, .ref (ad 0)), (1, .int x1)] := hl
  have hinRX5 : ∀ w ∈ u_ws RX5 TX5 7, w ∈ wsX5_nearest := by decide +kernel
  have lk12 := hts (.fieldLink RX5 12 "GraveRows" "ground" "LGraveRows$Ground;") (by decide +kernel)
  have hinRX2 : ∀ w ∈ u_ws RX2 TX2 7, w ∈ wsX5_nearest := by decide +kernel
  have lk52 := hts (.fieldLink RX5 52 "GraveRows$Ground" "size" "I") (by decide +kernel)
  have lc125 := hts (.constant RX5 125 (-100006)) (by decide +kernel)
  have lc47 := hts (.constant RX5 47 (-100001)) (by decide +kernel)
  rw [f_X5_nearest] at h
  refine lv_aload_n hx hb dX5_nearest_0 rfl (lv_at hl 0 rfl) ?_
  refine w_get (v := .ref (ad 1)) C hinRX5 hI 0 at_C rfl 0 (by decide) lk12 rfl rfl dX5_nearest_1 ?_
  refine lv_iload_n hx hb dX5_nearest_4 rfl (lv_at hl 1 rfl) ?_
  refine callV_I (rest := []) C hI (c_X2_holds l g Y ad x1 st) (cwV 1 hts gX5_nearest_X2_holds rfl rfl rfl hv_X2_holds ⟨Nat.le_of_ble_eq_true rfl, Nat.le_of_ble_eq_true rfl⟩) (w_recv C hI 1 at_G0 rfl) rfl hl.1 rfl (Nat.le_of_ble_eq_true rfl) dX5_nearest_5 (fun H locs hI => ?_)
  refine gen_b h (fun r_1 h => ?_)
  refine lv_if_ne (tgt := 18) hx hb dX5_nearest_8 (by decide) (fun c_2 => ?_) (fun c_2 => ?_)
  · replace h := (if_neg c_2).symm.trans h
    refine lv_aload_n hx hb dX5_nearest_18 rfl (lv_at hl 0 rfl) ?_
    refine w_get (v := .ref (ad 1)) C hinRX5 hI 0 at_C rfl 0 (by decide) lk12 rfl rfl dX5_nearest_19 ?_
    refine w_get (v := .int (st 13 0)) C hinRX2 hI 1 at_G0 rfl 5 (by decide) lk52 rfl rfl dX5_nearest_22 ?_
    refine lv_iconst (v := 2) hx hb dX5_nearest_25 (by decide) ?_
    refine lv_icmp_ge (tgt := 36) hx hb dX5_nearest_26 (by decide) (fun c_3 => ?_) (fun c_3 => ?_)
    · replace h := (if_pos c_3).symm.trans h
      refine lv_aload_n hx hb dX5_nearest_36 rfl (lv_at hl 0 rfl) ?_
      refine w_get (v := .ref (ad 1)) C hinRX5 hI 0 at_C rfl 0 (by decide) lk12 rfl rfl dX5_nearest_37 ?_
      refine lv_iload_n hx hb dX5_nearest_40 rfl (lv_at hl 1 rfl) ?_
      obtain ⟨r_5, hr_4, h⟩ := bd1_some h
      refine callV_I (rest := []) C hI (c_X2_mostLike l g Y ad N x1 st hr_4) (cwV 1 hts gX5_nearest_X2_mostLike rfl rfl rfl hv_X2_mostLike ⟨Nat.le_of_ble_eq_true rfl, Nat.le_of_ble_eq_true rfl⟩) (w_recv C hI 1 at_G0 rfl) rfl hl.1 rfl (Nat.le_of_ble_eq_true rfl) dX5_nearest_41 (fun H locs hI => ?_)
      obtain ⟨rfl, rfl⟩ := ret2 h
      exact hret H locs _ ls hI dX5_nearest_44
    · replace h := (if_neg c_3).symm.trans h
      refine lv_aload_n hx hb dX5_nearest_29 rfl (lv_at hl 0 rfl) ?_
      refine lv_ldc (v := (-100006)) hx hb hown lc125 dX5_nearest_30 ?_
      obtain ⟨r_7, st_8, hr_6, h⟩ := bd2_some h
      refine callV_I (rest := []) C hI (c_X5_finding l g Y ad (-100006 : Int32) st hr_6) (cwV 1 hts gX5_nearest_X5_finding rfl rfl rfl hv_X5_finding ⟨Nat.le_of_ble_eq_true rfl, Nat.le_of_ble_eq_true rfl⟩) (w_recv C hI 0 at_C rfl) rfl hl.1 rfl (Nat.le_of_ble_eq_true rfl) dX5_nearest_32 (fun H locs hI => ?_)
      obtain ⟨rfl, rfl⟩ := ret2 h
      exact hret H locs _ ls hI dX5_nearest_35
  · replace h := (if_pos c_2).symm.trans h
    refine lv_aload_n hx hb dX5_nearest_11 rfl (lv_at hl 0 rfl) ?_
    refine lv_ldc (v := (-100001)) hx hb hown lc47 dX5_nearest_12 ?_
    obtain ⟨r_10, st_11, hr_9, h⟩ := bd2_some h
    refine callV_I (rest := []) C hI (c_X5_finding l g Y ad (-100001 : Int32) st hr_9) (cwV 1 hts gX5_nearest_X5_finding rfl rfl rfl hv_X5_finding ⟨Nat.le_of_ble_eq_true rfl, Nat.le_of_ble_eq_true rfl⟩) (w_recv C hI 0 at_C rfl) rfl hl.1 rfl (Nat.le_of_ble_eq_true rfl) dX5_nearest_14 (fun H locs hI => ?_)
    obtain ⟨rfl, rfl⟩ := ret2 h
    exact hret H locs _ ls hI dX5_nearest_17
theorem hv_X5_nearest : yX5_nearest.cls = RX5 ∧ yX5_nearest.cls ≠ "java/lang/invoke/MethodHandle" ∧ yX5_nearest.cls ≠ "java/lang/invoke/VarHandle" ∧ (parseMethodDescriptor yX5_nearest.desc).map (fun d => d.parameters.length) = some 1 := by decide +kernel
/-! X5_mark -/
def rmX5_mark : Room := { frames := 1, cells := 0, slots := 0, locals := 24 }
def f_X5_mark (st : St) (x1 : Int32) (x2 : Int32) (x3 : Bool) : Option (Int32 × St) := bnd (f_X2_holds st x1) fun r_1 => if b2i r_1 = 0 then bd2 (f_X5_finding st (-100001 : Int32)) fun r_4 st_5 => some (r_4, st_5) else bnd (f_X5_isMark x2) fun r_6 => if b2i r_6 = 0 then bd2 (f_X5_finding st (-100001 : Int32)) fun r_14 st_15 => some (r_14, st_15) else ck 10 x1 fun j_8 => bd2 (f_X1_setMark st j_8 x2 x3) fun r_10 st_11 => if b2i r_10 = 0 then some (0, st_11) else some (1, st_11)
set_option maxHeartbeats 4000000 in
set_option maxRecDepth 100000 in
theorem c_X5_mark (l : Launch) (g : GP) (Y : va_W) (ad : Nat → Nat) (x1 : Int32) (x2 : Int32) (x3 : Bool)  (st : St) {r : Int32} {st' : St} (h : f_X5_mark st x1 x2 x3 = some (r, st')) : MetI l yX5_mark wsX5_mark rmX5_mark g (wCX g Y ad) [.ref (ad 0), .int x1, .int x2, .int (b2i x3)] st (r) st' := by
  refine metI_of (cc := cX5_mark) (nL := 4) (ty := .int) (by decide) rfl (Nat.le_of_ble_eq_true rfl) rfl ?_
  intro p e s m below meth c Q A C hret H locs hI ls hl
  have C : Cx p s m _ c cX5_mark 4 wsX5_mark RX5 g A := C
  obtain ⟨hx, hb, hml, hown, hts⟩ := id C.1
  have hl : lv_has ls 4 [(0, .ref (ad 0)), (1, .int x1), (2, .int x2), (3, .int (b2i x3))] := hl
  have hinRX5 : ∀ w ∈ u_ws RX5 TX5 7, w ∈ wsX5_mark := by decide +kernel
  have lk12 := hts (.fieldLink RX5 12 "GraveRows" "ground" "LGraveRows$Ground;") (by decide +kernel)
  have lc47 := hts (.constant RX5 47 (-100001)) (by decide +kernel)
  have hinRX2 : ∀ w ∈ u_ws RX2 TX2 7, w ∈ wsX5_mark := by decide +kernel
  have lk64 := hts (.fieldLink RX5 64 "GraveRows$Ground" "graves" "[LGraveRows$Grave;") (by decide +kernel)
  rw [f_X5_mark] at h
  refine lv_aload_n hx hb dX5_mark_0 rfl (lv_at hl 0 rfl) ?_
  refine w_get (v := .ref (ad 1)) C hinRX5 hI 0 at_C rfl 0 (by decide) lk12 rfl rfl dX5_mark_1 ?_
  refine lv_iload_n hx hb dX5_mark_4 rfl (lv_at hl 1 rfl) ?_
  refine callV_I (rest := []) C hI (c_X2_holds l g Y ad x1 st) (cwV 1 hts gX5_mark_X2_holds rfl rfl rfl hv_X2_holds ⟨Nat.le_of_ble_eq_true rfl, Nat.le_of_ble_eq_true rfl⟩) (w_recv C hI 1 at_G0 rfl) rfl hl.1 rfl (Nat.le_of_ble_eq_true rfl) dX5_mark_5 (fun H locs hI => ?_)
  refine gen_b h (fun r_1 h => ?_)
  refine lv_if_eq (tgt := 18) hx hb dX5_mark_8 (by decide) (fun c_2 => ?_) (fun c_2 => ?_)
  · replace h := (if_pos c_2).symm.trans h
    refine lv_aload_n hx hb dX5_mark_18 rfl (lv_at hl 0 rfl) ?_
    refine lv_ldc (v := (-100001)) hx hb hown lc47 dX5_mark_19 ?_
    obtain ⟨r_4, st_5, hr_3, h⟩ := bd2_some h
    refine callV_I (rest := []) C hI (c_X5_finding l g Y ad (-100001 : Int32) st hr_3) (cwV 1 hts gX5_mark_X5_finding rfl rfl rfl hv_X5_finding ⟨Nat.le_of_ble_eq_true rfl, Nat.le_of_ble_eq_true rfl⟩) (w_recv C hI 0 at_C rfl) rfl hl.1 rfl (Nat.le_of_ble_eq_true rfl) dX5_mark_21 (fun H locs hI => ?_)
    obtain ⟨rfl, rfl⟩ := ret2 h
    exact hret H locs _ ls hI dX5_mark_24
  · replace h := (if_neg c_2).symm.trans h
    refine lv_iload_n hx hb dX5_mark_11 rfl (lv_at hl 2 rfl) ?_
    refine callS_S (rest := []) C.1 (c_X5_isMark l x2) (va_cwS 1 hts gX5_mark_X5_isMark rfl rfl rfl hd_X5_isMark ⟨Nat.le_of_ble_eq_true rfl, Nat.le_of_ble_eq_true rfl⟩) rfl hl.1 rfl (Nat.le_of_ble_eq_true rfl) dX5_mark_12 ?_
    refine gen_b h (fun r_6 h => ?_)
    refine lv_if_ne (tgt := 25) hx hb dX5_mark_15 (by decide) (fun c_7 => ?_) (fun c_7 => ?_)
    · replace h := (if_neg c_7).symm.trans h
      refine lv_aload_n hx hb dX5_mark_25 rfl (lv_at hl 0 rfl) ?_
      refine w_get (v := .ref (ad 1)) C hinRX5 hI 0 at_C rfl 0 (by decide) lk12 rfl rfl dX5_mark_26 ?_
      refine w_get (v := .ref (ad 2)) C hinRX2 hI 1 at_G0 rfl 0 (by decide) lk64 rfl rfl dX5_mark_29 ?_
      refine lv_iload_n hx hb dX5_mark_32 rfl (lv_at hl 1 rfl) ?_
      refine w_ald (t0 := 2) (fa := fun j => ad (7 + j)) C hI 2 ra_2 rfl (fun _ => rfl) h dX5_mark_33 (fun j_8 hj_8 h => ?_)
      refine lv_iload_n hx hb dX5_mark_34 rfl (lv_at hl 2 rfl) ?_
      refine lv_iload_n hx hb dX5_mark_35 rfl (lv_at hl 3 rfl) ?_
      obtain ⟨r_10, st_11, hr_9, h⟩ := bd2_some h
      refine callV_I (rest := []) C hI (c_X1_setMark l g Y ad j_8 x2 x3 hj_8 st hr_9) (cwV 2 hts gX5_mark_X1_setMark rfl rfl rfl hv_X1_setMark ⟨Nat.le_of_ble_eq_true rfl, Nat.le_of_ble_eq_true rfl⟩) (w_recv C hI (7 + j_8) (at_V0 hj_8) rfl) rfl hl.1 rfl (Nat.le_of_ble_eq_true rfl) dX5_mark_36 (fun H locs hI => ?_)
      refine lv_if_eq (tgt := 46) hx hb dX5_mark_39 (by decide) (fun c_12 => ?_) (fun c_12 => ?_)
      · replace h := (if_pos c_12).symm.trans h
        refine lv_iconst (v := 0) hx hb dX5_mark_46 (by decide) ?_
        obtain ⟨rfl, rfl⟩ := ret2 h
        exact hret H locs _ ls hI dX5_mark_47
      · replace h := (if_neg c_12).symm.trans h
        refine lv_iconst (v := 1) hx hb dX5_mark_42 (by decide) ?_
        refine lv_goto (tgt := 47) hx hb dX5_mark_43 (by decide) ?_
        obtain ⟨rfl, rfl⟩ := ret2 h
        exact hret H locs _ ls hI dX5_mark_47
    · replace h := (if_pos c_7).symm.trans h
      refine lv_aload_n hx hb dX5_mark_18 rfl (lv_at hl 0 rfl) ?_
      refine lv_ldc (v := (-100001)) hx hb hown lc47 dX5_mark_19 ?_
      obtain ⟨r_14, st_15, hr_13, h⟩ := bd2_some h
      refine callV_I (rest := []) C hI (c_X5_finding l g Y ad (-100001 : Int32) st hr_13) (cwV 1 hts gX5_mark_X5_finding rfl rfl rfl hv_X5_finding ⟨Nat.le_of_ble_eq_true rfl, Nat.le_of_ble_eq_true rfl⟩) (w_recv C hI 0 at_C rfl) rfl hl.1 rfl (Nat.le_of_ble_eq_true rfl) dX5_mark_21 (fun H locs hI => ?_)
      obtain ⟨rfl, rfl⟩ := ret2 h
      exact hret H locs _ ls hI dX5_mark_24
theorem hv_X5_mark : yX5_mark.cls = RX5 ∧ yX5_mark.cls ≠ "java/lang/invoke/MethodHandle" ∧ yX5_mark.cls ≠ "java/lang/invoke/VarHandle" ∧ (parseMethodDescriptor yX5_mark.desc).map (fun d => d.parameters.length) = some 3 := by decide +kernel
/-! X5_weigh -/
def rmX5_weigh : Room := { frames := 1, cells := 0, slots := 0, locals := 21 }
def f_X5_weigh (st : St) (x1 : Int32) (x2 : Bool) (x3 : Int32) : Option (Int32 × St) := bnd (f_X5_isMark x1) fun r_1 => if b2i r_1 = 0 then bd2 (f_X5_finding st (-100001 : Int32)) fun r_4 st_5 => some (r_4, st_5) else if x3 < 1 then bd2 (f_X5_finding st (-100001 : Int32)) fun r_8 st_9 => some (r_8, st_9) else if x3 ≤ 20 then bnd (f_X2_weightsFor st x2) fun r_11 => ck 6 x1 fun j_13 => bnd (st (r_11 + 6) j_13) fun v_14 => sto 6 st (r_11 + 6) x1 x3 fun st_15 => some (v_14, st_15) else bd2 (f_X5_finding st (-100001 : Int32)) fun r_17 st_18 => some (r_17, st_18)
set_option maxHeartbeats 4000000 in
set_option maxRecDepth 100000 in
theorem c_X5_weigh (l : Launch) (g : GP) (Y : va_W) (ad : Nat → Nat) (x1 : Int32) (x2 : Bool) (x3 : Int32)  (st : St) {r : Int32} {st' : St} (h : f_X5_weigh st x1 x2 x3 = some (r, st')) : MetI l yX5_weigh wsX5_weigh rmX5_weigh g (wCX g Y ad) [.ref (ad 0), .int x1, .int (b2i x2), .int x3] st (r) st' := by
  refine metI_of (cc := cX5_weigh) (nL := 6) (ty := .int) (by decide) rfl (Nat.le_of_ble_eq_true rfl) rfl ?_
  intro p e s m below meth c Q A C hret H locs hI ls hl
  have C : Cx p s m _ c cX5_weigh 6 wsX5_weigh RX5 g A := C
  obtain ⟨hx, hb, hml, hown, hts⟩ := id C.1
  have hl : lv_has ls 6 [(0, .ref (ad 0)), (1, .int x1), (2, .int (b2i x2)), (3, .int x3)] := hl
  have lc47 := hts (.constant RX5 47 (-100001)) (by decide +kernel)
  have hinRX5 : ∀ w ∈ u_ws RX5 TX5 7, w ∈ wsX5_weigh := by decide +kernel
  have lk12 := hts (.fieldLink RX5 12 "GraveRows" "ground" "LGraveRows$Ground;") (by decide +kernel)
  rw [f_X5_weigh] at h
  refine lv_iload_n hx hb dX5_weigh_0 rfl (lv_at hl 1 rfl) ?_
  refine callS_S (rest := []) C.1 (c_X5_isMark l x1) (va_cwS 1 hts gX5_weigh_X5_isMark rfl rfl rfl hd_X5_isMark ⟨Nat.le_of_ble_eq_true rfl, Nat.le_of_ble_eq_true rfl⟩) rfl hl.1 rfl (Nat.le_of_ble_eq_true rfl) dX5_weigh_1 ?_
  refine gen_b h (fun r_1 h => ?_)
  refine lv_if_eq (tgt := 18) hx hb dX5_weigh_4 (by decide) (fun c_2 => ?_) (fun c_2 => ?_)
  · replace h := (if_pos c_2).symm.trans h
    refine lv_aload_n hx hb dX5_weigh_18 rfl (lv_at hl 0 rfl) ?_
    refine lv_ldc (v := (-100001)) hx hb hown lc47 dX5_weigh_19 ?_
    obtain ⟨r_4, st_5, hr_3, h⟩ := bd2_some h
    refine callV_I (rest := []) C hI (c_X5_finding l g Y ad (-100001 : Int32) st hr_3) (cwV 1 hts gX5_weigh_X5_finding rfl rfl rfl hv_X5_finding ⟨Nat.le_of_ble_eq_true rfl, Nat.le_of_ble_eq_true rfl⟩) (w_recv C hI 0 at_C rfl) rfl hl.1 rfl (Nat.le_of_ble_eq_true rfl) dX5_weigh_21 (fun H locs hI => ?_)
    obtain ⟨rfl, rfl⟩ := ret2 h
    exact hret H locs _ ls hI dX5_weigh_24
  · replace h := (if_neg c_2).symm.trans h
    refine lv_iload_n hx hb dX5_weigh_7 rfl (lv_at hl 3 rfl) ?_
    refine lv_iconst (v := 1) hx hb dX5_weigh_8 (by decide) ?_
    refine lv_icmp_lt (tgt := 18) hx hb dX5_weigh_9 (by decide) (fun c_6 => ?_) (fun c_6 => ?_)
    · replace h := (if_pos c_6).symm.trans h
      refine lv_aload_n hx hb dX5_weigh_18 rfl (lv_at hl 0 rfl) ?_
      refine lv_ldc (v := (-100001)) hx hb hown lc47 dX5_weigh_19 ?_
      obtain ⟨r_8, st_9, hr_7, h⟩ := bd2_some h
      refine callV_I (rest := []) C hI (c_X5_finding l g Y ad (-100001 : Int32) st hr_7) (cwV 1 hts gX5_weigh_X5_finding rfl rfl rfl hv_X5_finding ⟨Nat.le_of_ble_eq_true rfl, Nat.le_of_ble_eq_true rfl⟩) (w_recv C hI 0 at_C rfl) rfl hl.1 rfl (Nat.le_of_ble_eq_true rfl) dX5_weigh_21 (fun H locs hI => ?_)
      obtain ⟨rfl, rfl⟩ := ret2 h
      exact hret H locs _ ls hI dX5_weigh_24
    · replace h := (if_neg c_6).symm.trans h
      refine lv_iload_n hx hb dX5_weigh_12 rfl (lv_at hl 3 rfl) ?_
      refine lv_bipush (v := 20) hx hb dX5_weigh_13 (by decide) ?_
      refine lv_icmp_le (tgt := 25) hx hb dX5_weigh_15 (by decide) (fun c_10 => ?_) (fun c_10 => ?_)
      · replace h := (if_pos c_10).symm.trans h
        refine lv_aload_n hx hb dX5_weigh_25 rfl (lv_at hl 0 rfl) ?_
        refine w_get (v := .ref (ad 1)) C hinRX5 hI 0 at_C rfl 0 (by decide) lk12 rfl rfl dX5_weigh_26 ?_
        refine lv_iload_n hx hb dX5_weigh_29 rfl (lv_at hl 2 rfl) ?_
        refine callV_R (rest := []) C hI (c_X2_weightsFor l g Y ad x2 st) (cwV 1 hts gX5_weigh_X2_weightsFor rfl rfl rfl hv_X2_weightsFor ⟨Nat.le_of_ble_eq_true rfl, Nat.le_of_ble_eq_true rfl⟩) (w_recv C hI 1 at_G0 rfl) rfl hl.1 rfl (Nat.le_of_ble_eq_true rfl) dX5_weigh_30 (fun H locs hI => ?_)
        have hq_12 := fq_X2_weightsFor st x2
        refine gen_q (q := fun y => y = 3 ∨ y = 4) (fa := fun y => ad y) h hq_12 (fun r_11 hq_12 h => ?_)
        refine lv_astore (lv' := [(4, .ref (ad r_11)), (0, .ref (ad 0)), (1, .int x1), (2, .int (b2i x2)), (3, .int x3)]) hx hb dX5_weigh_33 hl (by decide) rfl (fun ls hl => ?_)
        refine lv_aload hx hb dX5_weigh_35 (lv_at hl 0 rfl) ?_
        refine lv_iload_n hx hb dX5_weigh_37 rfl (lv_at hl 2 rfl) ?_
        refine w_ld C hI r_11 (ar_W hq_12) h dX5_weigh_38 (fun j_13 hj_13 h => ?_)
        refine gen_i h (fun v_14 h => ?_)
        refine lv_istore (lv' := [(5, .int v_14), (4, .ref (ad r_11)), (0, .ref (ad 0)), (1, .int x1), (2, .int (b2i x2)), (3, .int x3)]) hx hb dX5_weigh_39 hl (by decide) rfl (fun ls hl => ?_)
        refine lv_aload hx hb dX5_weigh_41 (lv_at hl 1 rfl) ?_
        refine lv_iload_n hx hb dX5_weigh_43 rfl (lv_at hl 3 rfl) ?_
        refine lv_iload_n hx hb dX5_weigh_44 rfl (lv_at hl 5 rfl) ?_
        refine w_st C hI r_11 (ar_W hq_12) (sa_W hq_12) h dX5_weigh_45 (fun st_15 H locs h hI => ?_)
        refine lv_iload hx hb dX5_weigh_46 (lv_at hl 0 rfl) ?_
        obtain ⟨rfl, rfl⟩ := ret2 h
        exact hret H locs _ ls hI dX5_weigh_48
      · replace h := (if_neg c_10).symm.trans h
        refine lv_aload_n hx hb dX5_weigh_18 rfl (lv_at hl 0 rfl) ?_
        refine lv_ldc (v := (-100001)) hx hb hown lc47 dX5_weigh_19 ?_
        obtain ⟨r_17, st_18, hr_16, h⟩ := bd2_some h
        refine callV_I (rest := []) C hI (c_X5_finding l g Y ad (-100001 : Int32) st hr_16) (cwV 1 hts gX5_weigh_X5_finding rfl rfl rfl hv_X5_finding ⟨Nat.le_of_ble_eq_true rfl, Nat.le_of_ble_eq_true rfl⟩) (w_recv C hI 0 at_C rfl) rfl hl.1 rfl (Nat.le_of_ble_eq_true rfl) dX5_weigh_21 (fun H locs hI => ?_)
        obtain ⟨rfl, rfl⟩ := ret2 h
        exact hret H locs _ ls hI dX5_weigh_24
theorem hv_X5_weigh : yX5_weigh.cls = RX5 ∧ yX5_weigh.cls ≠ "java/lang/invoke/MethodHandle" ∧ yX5_weigh.cls ≠ "java/lang/invoke/VarHandle" ∧ (parseMethodDescriptor yX5_weigh.desc).map (fun d => d.parameters.length) = some 3 := by decide +kernel
/-! X5_share -/
def rmX5_share : Room := { frames := 2, cells := 0, slots := 0, locals := 49 }
def f_X5_share (N : Nat) (st : St) (x1 : Int32) (x2 : Bool) : Option (Int64 × St) := bnd (f_X2_holds st x1) fun r_1 => if b2i r_1 = 0 then bd2 (f_X5_finding st (-100001 : Int32)) fun r_13 st_14 => some (r_13.toInt64, st_14) else ck 10 x1 fun j_3 => bd1 (f_X1_isOfKind N st j_3 2) fun r_5 => if b2i r_5 = 0 then bd1 (f_X2_productOfMarks N st x1 x2) fun r_8 => some (r_8, st) else bd2 (f_X5_finding st (-100004 : Int32)) fun r_10 st_11 => some (r_10.toInt64, st_11)
set_option maxHeartbeats 4000000 in
set_option maxRecDepth 100000 in
theorem c_X5_share (l : Launch) (g : GP) (Y : va_W) (ad : Nat → Nat) (N : Nat) (x1 : Int32) (x2 : Bool)  (st : St) {r : Int64} {st' : St} (h : f_X5_share N st x1 x2 = some (r, st')) : MetL l yX5_share wsX5_share rmX5_share g (wCX g Y ad) [.ref (ad 0), .int x1, .int (b2i x2)] st (r) st' := by
  refine metL_of (cc := cX5_share) (nL := 3) (by decide) rfl (Nat.le_of_ble_eq_true rfl) ?_
  intro p e s m below meth c Q A C hret H locs hI ls hl
  have C : Cx p s m _ c cX5_share 3 wsX5_share RX5 g A := C
  obtain ⟨hx, hb, hml, hown, hts⟩ := id C.1
  have hl : lv_has ls 3 [(0, .ref (ad 0)), (1, .int x1), (2, .int (b2i x2))] := hl
  have hinRX5 : ∀ w ∈ u_ws RX5 TX5 7, w ∈ wsX5_share := by decide +kernel
  have lk12 := hts (.fieldLink RX5 12 "GraveRows" "ground" "LGraveRows$Ground;") (by decide +kernel)
  have hinRX2 : ∀ w ∈ u_ws RX2 TX2 7, w ∈ wsX5_share := by decide +kernel
  have lk64 := hts (.fieldLink RX5 64 "GraveRows$Ground" "graves" "[LGraveRows$Grave;") (by decide +kernel)
  have lc73 := hts (.constant RX5 73 (-100004)) (by decide +kernel)
  have lc47 := hts (.constant RX5 47 (-100001)) (by decide +kernel)
  rw [f_X5_share] at h
  refine lv_aload_n hx hb dX5_share_0 rfl (lv_at hl 0 rfl) ?_
  refine w_get (v := .ref (ad 1)) C hinRX5 hI 0 at_C rfl 0 (by decide) lk12 rfl rfl dX5_share_1 ?_
  refine lv_iload_n hx hb dX5_share_4 rfl (lv_at hl 1 rfl) ?_
  refine callV_I (rest := []) C hI (c_X2_holds l g Y ad x1 st) (cwV 1 hts gX5_share_X2_holds rfl rfl rfl hv_X2_holds ⟨Nat.le_of_ble_eq_true rfl, Nat.le_of_ble_eq_true rfl⟩) (w_recv C hI 1 at_G0 rfl) rfl hl.1 rfl (Nat.le_of_ble_eq_true rfl) dX5_share_5 (fun H locs hI => ?_)
  refine gen_b h (fun r_1 h => ?_)
  refine lv_if_ne (tgt := 19) hx hb dX5_share_8 (by decide) (fun c_2 => ?_) (fun c_2 => ?_)
  · replace h := (if_neg c_2).symm.trans h
    refine lv_aload_n hx hb dX5_share_19 rfl (lv_at hl 0 rfl) ?_
    refine w_get (v := .ref (ad 1)) C hinRX5 hI 0 at_C rfl 0 (by decide) lk12 rfl rfl dX5_share_20 ?_
    refine w_get (v := .ref (ad 2)) C hinRX2 hI 1 at_G0 rfl 0 (by decide) lk64 rfl rfl dX5_share_23 ?_
    refine lv_iload_n hx hb dX5_share_26 rfl (lv_at hl 1 rfl) ?_
    refine w_ald (t0 := 2) (fa := fun j => ad (7 + j)) C hI 2 ra_2 rfl (fun _ => rfl) h dX5_share_27 (fun j_3 hj_3 h => ?_)
    refine lv_iconst (v := 2) hx hb dX5_share_28 (by decide) ?_
    obtain ⟨r_5, hr_4, h⟩ := bd1_some h
    refine callV_I (rest := []) C hI (c_X1_isOfKind l g Y ad N j_3 2 hj_3 st hr_4) (cwV 1 hts gX5_share_X1_isOfKind rfl rfl rfl hv_X1_isOfKind ⟨Nat.le_of_ble_eq_true rfl, Nat.le_of_ble_eq_true rfl⟩) (w_recv C hI (7 + j_3) (at_V0 hj_3) rfl) rfl hl.1 rfl (Nat.le_of_ble_eq_true rfl) dX5_share_29 (fun H locs hI => ?_)
    refine lv_if_eq (tgt := 43) hx hb dX5_share_32 (by decide) (fun c_6 => ?_) (fun c_6 => ?_)
    · replace h := (if_pos c_6).symm.trans h
      refine lv_aload_n hx hb dX5_share_43 rfl (lv_at hl 0 rfl) ?_
      refine w_get (v := .ref (ad 1)) C hinRX5 hI 0 at_C rfl 0 (by decide) lk12 rfl rfl dX5_share_44 ?_
      refine lv_iload_n hx hb dX5_share_47 rfl (lv_at hl 1 rfl) ?_
      refine lv_iload_n hx hb dX5_share_48 rfl (lv_at hl 2 rfl) ?_
      obtain ⟨r_8, hr_7, h⟩ := bd1_some h
      refine callV_L (rest := []) C hI (c_X2_productOfMarks l g Y ad N x1 x2 st hr_7) (cwV 2 hts gX5_share_X2_productOfMarks rfl rfl rfl hv_X2_productOfMarks ⟨Nat.le_of_ble_eq_true rfl, Nat.le_of_ble_eq_true rfl⟩) (w_recv C hI 1 at_G0 rfl) rfl hl.1 rfl (Nat.le_of_ble_eq_true rfl) dX5_share_49 (fun H locs hI => ?_)
      obtain ⟨rfl, rfl⟩ := ret2 h
      exact hret H locs _ ls hI dX5_share_52
    · replace h := (if_neg c_6).symm.trans h
      refine lv_aload_n hx hb dX5_share_35 rfl (lv_at hl 0 rfl) ?_
      refine lv_ldc (v := (-100004)) hx hb hown lc73 dX5_share_36 ?_
      obtain ⟨r_10, st_11, hr_9, h⟩ := bd2_some h
      refine callV_I (rest := []) C hI (c_X5_finding l g Y ad (-100004 : Int32) st hr_9) (cwV 1 hts gX5_share_X5_finding rfl rfl rfl hv_X5_finding ⟨Nat.le_of_ble_eq_true rfl, Nat.le_of_ble_eq_true rfl⟩) (w_recv C hI 0 at_C rfl) rfl hl.1 rfl (Nat.le_of_ble_eq_true rfl) dX5_share_38 (fun H locs hI => ?_)
      refine lv_i2l (v := r_10.toInt64) hx hb dX5_share_41 rfl ?_
      obtain ⟨rfl, rfl⟩ := ret2 h
      exact hret H locs _ ls hI dX5_share_42
  · replace h := (if_pos c_2).symm.trans h
    refine lv_aload_n hx hb dX5_share_11 rfl (lv_at hl 0 rfl) ?_
    refine lv_ldc (v := (-100001)) hx hb hown lc47 dX5_share_12 ?_
    obtain ⟨r_13, st_14, hr_12, h⟩ := bd2_some h
    refine callV_I (rest := []) C hI (c_X5_finding l g Y ad (-100001 : Int32) st hr_12) (cwV 1 hts gX5_share_X5_finding rfl rfl rfl hv_X5_finding ⟨Nat.le_of_ble_eq_true rfl, Nat.le_of_ble_eq_true rfl⟩) (w_recv C hI 0 at_C rfl) rfl hl.1 rfl (Nat.le_of_ble_eq_true rfl) dX5_share_14 (fun H locs hI => ?_)
    refine lv_i2l (v := r_13.toInt64) hx hb dX5_share_17 rfl ?_
    obtain ⟨rfl, rfl⟩ := ret2 h
    exact hret H locs _ ls hI dX5_share_18
theorem hv_X5_share : yX5_share.cls = RX5 ∧ yX5_share.cls ≠ "java/lang/invoke/MethodHandle" ∧ yX5_share.cls ≠ "java/lang/invoke/VarHandle" ∧ (parseMethodDescriptor yX5_share.desc).map (fun d => d.parameters.length) = some 2 := by decide +kernel
/-! X5_people -/
def rmX5_people : Room := { frames := 3, cells := 0, slots := 0, locals := 74 }
def f_X5_people_L20 (N : Nat) (x1 : Int32) (st : St) (k : Int32 → Int32 → Option (Int32 × St)) : Nat → Int32 → Int32 → Option (Int32 × St)
  | 0, _, _ => none
  | n + 1, x2, x3 => if st 13 0 ≤ x3 then k x2 x3 else bd1 (f_X2_whose N st x3) fun r_8 => if r_8 = x1 then f_X5_people_L20 N x1 st k n (x2 + 1) (x3 + 1) else f_X5_people_L20 N x1 st k n x2 (x3 + 1)
def f_X5_people (N : Nat) (st : St) (x1 : Int32) : Option (Int32 × St) := if x1 < 0 then bd2 (f_X5_finding st (-100001 : Int32)) fun r_3 st_4 => some (r_3, st_4) else if x1 ≤ 2 then f_X5_people_L20 N x1 st (fun a_10 a_11 => some (a_10, st)) N 0 0 else bd2 (f_X5_finding st (-100001 : Int32)) fun r_13 st_14 => some (r_13, st_14)
set_option maxHeartbeats 4000000 in
set_option maxRecDepth 100000 in
theorem wl_X5_people_L20 {p : Program} {l : Launch} {e : Env} {s : State} {m : MethodId} {args : Array Value} {below : List Frame} {meth : Method} {c : Code} {Q : State → Prop} {A : Nat → Prop} {g : GP} {Y : va_W} {ad : Nat → Nat} {r : Int32} {st' : St} (C : Cx p s m args c cX5_people 4 wsX5_people RX5 g A) (hret : RetI p l e rmX5_people s m args below meth c Q cX5_people g A (wCX g Y ad st') (r)) (N : Nat) (x1 : Int32) (st : St)  (k : Int32 → Int32 → Option (Int32 × St)) (hk : ∀ (x2 : Int32) (x3 : Int32) (H : Heap) (locs : List Loc) (ls : Array Slot), k x2 x3 = some (r, st') → IW g A s.heap (wCX g Y ad st) H locs → lv_has ls 4 [(0, .ref (ad 0)), (1, .int x1), (2, .int x2), (3, .int x3)] → W p l e rmX5_people s m args below meth c H locs 0 0 Q (F0 m 52 ls [])) : ∀ (n : Nat) (x2 : Int32) (x3 : Int32) (H : Heap) (locs : List Loc) (ls : Array Slot), f_X5_people_L20 N x1 st k n x2 x3 = some (r, st') → IW g A s.heap (wCX g Y ad st) H locs → lv_has ls 4 [(0, .ref (ad 0)), (1, .int x1), (2, .int x2), (3, .int x3)] → W p l e rmX5_people s m args below meth c H locs 0 0 Q (F0 m 20 ls []) := by
  obtain ⟨hx, hb, hml, hown, hts⟩ := id C.1
  have hinRX5 : ∀ w ∈ u_ws RX5 TX5 7, w ∈ wsX5_people := by decide +kernel
  have lk12 := hts (.fieldLink RX5 12 "GraveRows" "ground" "LGraveRows$Ground;") (by decide +kernel)
  have hinRX2 : ∀ w ∈ u_ws RX2 TX2 7, w ∈ wsX5_people := by decide +kernel
  have lk52 := hts (.fieldLink RX5 52 "GraveRows$Ground" "size" "I") (by decide +kernel)
  intro n
  induction n with
  | zero =>
    intro x2 x3 H locs ls h hI hl
    rw [f_X5_people_L20] at h
    cases h
  | succ n ih =>
    intro x2 x3 H locs ls h hI hl
    rw [f_X5_people_L20] at h
    refine lv_iload_n hx hb dX5_people_20 rfl (lv_at hl 3 rfl) ?_
    refine lv_aload_n hx hb dX5_people_21 rfl (lv_at hl 0 rfl) ?_
    refine w_get (v := .ref (ad 1)) C hinRX5 hI 0 at_C rfl 0 (by decide) lk12 rfl rfl dX5_people_22 ?_
    refine w_get (v := .int (st 13 0)) C hinRX2 hI 1 at_G0 rfl 5 (by decide) lk52 rfl rfl dX5_people_25 ?_
    refine lv_icmp_ge (tgt := 52) hx hb dX5_people_28 (by decide) (fun c_6 => ?_) (fun c_6 => ?_)
    · replace h := (if_pos c_6).symm.trans h
      exact hk _ _ _ _ _ h hI (lv_sub hl [0, 1, 2, 3] rfl)
    · replace h := (if_neg c_6).symm.trans h
      refine lv_aload_n hx hb dX5_people_31 rfl (lv_at hl 0 rfl) ?_
      refine w_get (v := .ref (ad 1)) C hinRX5 hI 0 at_C rfl 0 (by decide) lk12 rfl rfl dX5_people_32 ?_
      refine lv_iload_n hx hb dX5_people_35 rfl (lv_at hl 3 rfl) ?_
      obtain ⟨r_8, hr_7, h⟩ := bd1_some h
      refine callV_I (rest := []) C hI (c_X2_whose l g Y ad N x3 st hr_7) (cwV 1 hts gX5_people_X2_whose rfl rfl rfl hv_X2_whose ⟨Nat.le_of_ble_eq_true rfl, Nat.le_of_ble_eq_true rfl⟩) (w_recv C hI 1 at_G0 rfl) rfl hl.1 rfl (Nat.le_of_ble_eq_true rfl) dX5_people_36 (fun H locs hI => ?_)
      refine lv_iload_n hx hb dX5_people_39 rfl (lv_at hl 1 rfl) ?_
      refine lv_icmp_ne (tgt := 46) hx hb dX5_people_40 (by decide) (fun c_9 => ?_) (fun c_9 => ?_)
      · replace h := (if_neg c_9).symm.trans h
        refine lv_iinc (v := x3 + 1) (lv' := [(3, .int (x3 + 1)), (0, .ref (ad 0)), (1, .int x1), (2, .int x2)]) hx hb dX5_people_46 hl (k := 3) rfl rfl (by decide) rfl (fun ls hl => ?_)
        refine lv_goto (tgt := 20) hx hb dX5_people_49 (by decide) ?_
        exact ih _ _ _ _ _ h hI (lv_sub hl [1, 2, 3, 0] rfl)
      · replace h := (if_pos c_9).symm.trans h
        refine lv_iinc (v := x2 + 1) (lv' := [(2, .int (x2 + 1)), (0, .ref (ad 0)), (1, .int x1), (3, .int x3)]) hx hb dX5_people_43 hl (k := 2) rfl rfl (by decide) rfl (fun ls hl => ?_)
        refine lv_iinc (v := x3 + 1) (lv' := [(3, .int (x3 + 1)), (2, .int (x2 + 1)), (0, .ref (ad 0)), (1, .int x1)]) hx hb dX5_people_46 hl (k := 3) rfl rfl (by decide) rfl (fun ls hl => ?_)
        refine lv_goto (tgt := 20) hx hb dX5_people_49 (by decide) ?_
        exact ih _ _ _ _ _ h hI (lv_sub hl [2, 3, 1, 0] rfl)
set_option maxHeartbeats 4000000 in
set_option maxRecDepth 100000 in
theorem c_X5_people (l : Launch) (g : GP) (Y : va_W) (ad : Nat → Nat) (N : Nat) (x1 : Int32)  (st : St) {r : Int32} {st' : St} (h : f_X5_people N st x1 = some (r, st')) : MetI l yX5_people wsX5_people rmX5_people g (wCX g Y ad) [.ref (ad 0), .int x1] st (r) st' := by
  refine metI_of (cc := cX5_people) (nL := 4) (ty := .int) (by decide) rfl (Nat.le_of_ble_eq_true rfl) rfl ?_
  intro p e s m below meth c Q A C hret H locs hI ls hl
  have C : Cx p s m _ c cX5_people 4 wsX5_people RX5 g A := C
  obtain ⟨hx, hb, hml, hown, hts⟩ := id C.1
  have hl : lv_has ls 4 [(0, .ref (ad 0)), (1, .int x1)] := hl
  have lc47 := hts (.constant RX5 47 (-100001)) (by decide +kernel)
  rw [f_X5_people] at h
  refine lv_iload_n hx hb dX5_people_0 rfl (lv_at hl 1 rfl) ?_
  refine lv_if_lt (tgt := 9) hx hb dX5_people_1 (by decide) (fun c_1 => ?_) (fun c_1 => ?_)
  · replace h := (if_pos c_1).symm.trans h
    refine lv_aload_n hx hb dX5_people_9 rfl (lv_at hl 0 rfl) ?_
    refine lv_ldc (v := (-100001)) hx hb hown lc47 dX5_people_10 ?_
    obtain ⟨r_3, st_4, hr_2, h⟩ := bd2_some h
    refine callV_I (rest := []) C hI (c_X5_finding l g Y ad (-100001 : Int32) st hr_2) (cwV 1 hts gX5_people_X5_finding rfl rfl rfl hv_X5_finding ⟨Nat.le_of_ble_eq_true rfl, Nat.le_of_ble_eq_true rfl⟩) (w_recv C hI 0 at_C rfl) rfl hl.1 rfl (Nat.le_of_ble_eq_true rfl) dX5_people_12 (fun H locs hI => ?_)
    obtain ⟨rfl, rfl⟩ := ret2 h
    exact hret H locs _ ls hI dX5_people_15
  · replace h := (if_neg c_1).symm.trans h
    refine lv_iload_n hx hb dX5_people_4 rfl (lv_at hl 1 rfl) ?_
    refine lv_iconst (v := 2) hx hb dX5_people_5 (by decide) ?_
    refine lv_icmp_le (tgt := 16) hx hb dX5_people_6 (by decide) (fun c_5 => ?_) (fun c_5 => ?_)
    · replace h := (if_pos c_5).symm.trans h
      refine lv_iconst (v := 0) hx hb dX5_people_16 (by decide) ?_
      refine lv_istore_n (lv' := [(2, .int 0), (0, .ref (ad 0)), (1, .int x1)]) hx hb dX5_people_17 rfl hl (by decide) rfl (fun ls hl => ?_)
      refine lv_iconst (v := 0) hx hb dX5_people_18 (by decide) ?_
      refine lv_istore_n (lv' := [(3, .int 0), (2, .int 0), (0, .ref (ad 0)), (1, .int x1)]) hx hb dX5_people_19 rfl hl (by decide) rfl (fun ls hl => ?_)
      refine wl_X5_people_L20 C hret N x1 st _ (fun a_10 a_11 H locs ls h hI hl => ?_) N 0 0 H locs ls h hI (lv_sub hl [2, 3, 1, 0] rfl)
      refine lv_iload_n hx hb dX5_people_52 rfl (lv_at hl 2 rfl) ?_
      obtain ⟨rfl, rfl⟩ := ret2 h
      exact hret H locs _ ls hI dX5_people_53
    · replace h := (if_neg c_5).symm.trans h
      refine lv_aload_n hx hb dX5_people_9 rfl (lv_at hl 0 rfl) ?_
      refine lv_ldc (v := (-100001)) hx hb hown lc47 dX5_people_10 ?_
      obtain ⟨r_13, st_14, hr_12, h⟩ := bd2_some h
      refine callV_I (rest := []) C hI (c_X5_finding l g Y ad (-100001 : Int32) st hr_12) (cwV 1 hts gX5_people_X5_finding rfl rfl rfl hv_X5_finding ⟨Nat.le_of_ble_eq_true rfl, Nat.le_of_ble_eq_true rfl⟩) (w_recv C hI 0 at_C rfl) rfl hl.1 rfl (Nat.le_of_ble_eq_true rfl) dX5_people_12 (fun H locs hI => ?_)
      obtain ⟨rfl, rfl⟩ := ret2 h
      exact hret H locs _ ls hI dX5_people_15
theorem hv_X5_people : yX5_people.cls = RX5 ∧ yX5_people.cls ≠ "java/lang/invoke/MethodHandle" ∧ yX5_people.cls ≠ "java/lang/invoke/VarHandle" ∧ (parseMethodDescriptor yX5_people.desc).map (fun d => d.parameters.length) = some 1 := by decide +kernel
/-! X5_keep -/
def rmX5_keep : Room := { frames := 2, cells := 0, slots := 0, locals := 82 }
def f_X5_keep (N : Nat) (st : St) : Option (Int32 × St) := bd1 (f_X2_becomev10 N st) fun st_2 => bnd (sU st_2 51 0 1) fun st_3 => some (st_3 13 0, st_3)
set_option maxHeartbeats 4000000 in
set_option maxRecDepth 100000 in
theorem c_X5_keep (l : Launch) (g : GP) (Y : va_W) (ad : Nat → Nat) (N : Nat)  (st : St) {r : Int32} {st' : St} (h : f_X5_keep N st = some (r, st')) : MetI l yX5_keep wsX5_keep rmX5_keep g (wCX g Y ad) [.ref (ad 0)] st (r) st' := by
  refine metI_of (cc := cX5_keep) (nL := 1) (ty := .int) (by decide) rfl (Nat.le_of_ble_eq_true rfl) rfl ?_
  intro p e s m below meth c Q A C hret H locs hI ls hl
  have C : Cx p s m _ c cX5_keep 1 wsX5_keep RX5 g A := C
  obtain ⟨hx, hb, hml, hown, hts⟩ := id C.1
  have hl : lv_has ls 1 [(0, .ref (ad 0))] := hl
  have hinRX5 : ∀ w ∈ u_ws RX5 TX5 7, w ∈ wsX5_keep := by decide +kernel
  have lk16 := hts (.fieldLink RX5 16 "GraveRows" "kept" "LGraveRows$Ground;") (by decide +kernel)
  have lk12 := hts (.fieldLink RX5 12 "GraveRows" "ground" "LGraveRows$Ground;") (by decide +kernel)
  have lk275 := hts (.fieldLink RX5 275 "GraveRows" "isKept" "Z") (by decide +kernel)
  have hinRX2 : ∀ w ∈ u_ws RX2 TX2 7, w ∈ wsX5_keep := by decide +kernel
  have lk52 := hts (.fieldLink RX5 52 "GraveRows$Ground" "size" "I") (by decide +kernel)
  rw [f_X5_keep] at h
  refine lv_aload_n hx hb dX5_keep_0 rfl (lv_at hl 0 rfl) ?_
  refine w_get (v := .ref (ad 17)) C hinRX5 hI 0 at_C rfl 1 (by decide) lk16 rfl rfl dX5_keep_1 ?_
  refine lv_aload_n hx hb dX5_keep_4 rfl (lv_at hl 0 rfl) ?_
  refine w_get (v := .ref (ad 1)) C hinRX5 hI 0 at_C rfl 0 (by decide) lk12 rfl rfl dX5_keep_5 ?_
  obtain ⟨st_2, hr_1, h⟩ := bd1_some h
  refine callV_V (rest := []) C hI (c_X2_becomev10 l g Y ad N st hr_1) (cwV 1 hts gX5_keep_X2_become rfl rfl rfl hv_X2_become ⟨Nat.le_of_ble_eq_true rfl, Nat.le_of_ble_eq_true rfl⟩) (w_recv C hI 17 at_G1 rfl) rfl hl.1 rfl (Nat.le_of_ble_eq_true rfl) dX5_keep_8 (fun H locs hI => ?_)
  refine lv_aload_n hx hb dX5_keep_11 rfl (lv_at hl 0 rfl) ?_
  refine lv_iconst (v := 1) hx hb dX5_keep_12 (by decide) ?_
  refine w_put C hinRX5 tyX5 tyX5_ok nmX5 hI 0 at_C rfl 5 h st_C_isKept (by decide) (Nat.le_of_ble_eq_true rfl) lk275 ⟨rfl, rfl⟩ rfl rfl dX5_keep_13 (fun st_3 H locs h hI => ?_)
  refine lv_aload_n hx hb dX5_keep_16 rfl (lv_at hl 0 rfl) ?_
  refine w_get (v := .ref (ad 1)) C hinRX5 hI 0 at_C rfl 0 (by decide) lk12 rfl rfl dX5_keep_17 ?_
  refine w_get (v := .int (st_3 13 0)) C hinRX2 hI 1 at_G0 rfl 5 (by decide) lk52 rfl rfl dX5_keep_20 ?_
  obtain ⟨rfl, rfl⟩ := ret2 h
  exact hret H locs _ ls hI dX5_keep_23
theorem hv_X5_keep : yX5_keep.cls = RX5 ∧ yX5_keep.cls ≠ "java/lang/invoke/MethodHandle" ∧ yX5_keep.cls ≠ "java/lang/invoke/VarHandle" ∧ (parseMethodDescriptor yX5_keep.desc).map (fun d => d.parameters.length) = some 0 := by decide +kernel
/-! X5_back -/
def rmX5_back : Room := { frames := 2, cells := 0, slots := 0, locals := 82 }
def f_X5_back (N : Nat) (st : St) : Option (Int32 × St) := if st 51 0 = 0 then bd2 (f_X5_finding st (-100006 : Int32)) fun r_5 st_6 => some (r_5, st_6) else bd1 (f_X2_becomev01 N st) fun st_3 => some (st_3 13 0, st_3)
set_option maxHeartbeats 4000000 in
set_option maxRecDepth 100000 in
theorem c_X5_back (l : Launch) (g : GP) (Y : va_W) (ad : Nat → Nat) (N : Nat)  (st : St) {r : Int32} {st' : St} (h : f_X5_back N st = some (r, st')) : MetI l yX5_back wsX5_back rmX5_back g (wCX g Y ad) [.ref (ad 0)] st (r) st' := by
  refine metI_of (cc := cX5_back) (nL := 1) (ty := .int) (by decide) rfl (Nat.le_of_ble_eq_true rfl) rfl ?_
  intro p e s m below meth c Q A C hret H locs hI ls hl
  have C : Cx p s m _ c cX5_back 1 wsX5_back RX5 g A := C
  obtain ⟨hx, hb, hml, hown, hts⟩ := id C.1
  have hl : lv_has ls 1 [(0, .ref (ad 0))] := hl
  have hinRX5 : ∀ w ∈ u_ws RX5 TX5 7, w ∈ wsX5_back := by decide +kernel
  have lk275 := hts (.fieldLink RX5 275 "GraveRows" "isKept" "Z") (by decide +kernel)
  have lk12 := hts (.fieldLink RX5 12 "GraveRows" "ground" "LGraveRows$Ground;") (by decide +kernel)
  have lk16 := hts (.fieldLink RX5 16 "GraveRows" "kept" "LGraveRows$Ground;") (by decide +kernel)
  have hinRX2 : ∀ w ∈ u_ws RX2 TX2 7, w ∈ wsX5_back := by decide +kernel
  have lk52 := hts (.fieldLink RX5 52 "GraveRows$Ground" "size" "I") (by decide +kernel)
  have lc125 := hts (.constant RX5 125 (-100006)) (by decide +kernel)
  rw [f_X5_back] at h
  refine lv_aload_n hx hb dX5_back_0 rfl (lv_at hl 0 rfl) ?_
  refine w_get (v := .int (st 51 0)) C hinRX5 hI 0 at_C rfl 5 (by decide) lk275 rfl rfl dX5_back_1 ?_
  refine lv_if_ne (tgt := 14) hx hb dX5_back_4 (by decide) (fun c_1 => ?_) (fun c_1 => ?_)
  · replace h := (if_neg c_1).symm.trans h
    refine lv_aload_n hx hb dX5_back_14 rfl (lv_at hl 0 rfl) ?_
    refine w_get (v := .ref (ad 1)) C hinRX5 hI 0 at_C rfl 0 (by decide) lk12 rfl rfl dX5_back_15 ?_
    refine lv_aload_n hx hb dX5_back_18 rfl (lv_at hl 0 rfl) ?_
    refine w_get (v := .ref (ad 17)) C hinRX5 hI 0 at_C rfl 1 (by decide) lk16 rfl rfl dX5_back_19 ?_
    obtain ⟨st_3, hr_2, h⟩ := bd1_some h
    refine callV_V (rest := []) C hI (c_X2_becomev01 l g Y ad N st hr_2) (cwV 1 hts gX5_back_X2_become rfl rfl rfl hv_X2_become ⟨Nat.le_of_ble_eq_true rfl, Nat.le_of_ble_eq_true rfl⟩) (w_recv C hI 1 at_G0 rfl) rfl hl.1 rfl (Nat.le_of_ble_eq_true rfl) dX5_back_22 (fun H locs hI => ?_)
    refine lv_aload_n hx hb dX5_back_25 rfl (lv_at hl 0 rfl) ?_
    refine w_get (v := .ref (ad 1)) C hinRX5 hI 0 at_C rfl 0 (by decide) lk12 rfl rfl dX5_back_26 ?_
    refine w_get (v := .int (st_3 13 0)) C hinRX2 hI 1 at_G0 rfl 5 (by decide) lk52 rfl rfl dX5_back_29 ?_
    obtain ⟨rfl, rfl⟩ := ret2 h
    exact hret H locs _ ls hI dX5_back_32
  · replace h := (if_pos c_1).symm.trans h
    refine lv_aload_n hx hb dX5_back_7 rfl (lv_at hl 0 rfl) ?_
    refine lv_ldc (v := (-100006)) hx hb hown lc125 dX5_back_8 ?_
    obtain ⟨r_5, st_6, hr_4, h⟩ := bd2_some h
    refine callV_I (rest := []) C hI (c_X5_finding l g Y ad (-100006 : Int32) st hr_4) (cwV 1 hts gX5_back_X5_finding rfl rfl rfl hv_X5_finding ⟨Nat.le_of_ble_eq_true rfl, Nat.le_of_ble_eq_true rfl⟩) (w_recv C hI 0 at_C rfl) rfl hl.1 rfl (Nat.le_of_ble_eq_true rfl) dX5_back_10 (fun H locs hI => ?_)
    obtain ⟨rfl, rfl⟩ := ret2 h
    exact hret H locs _ ls hI dX5_back_13
theorem hv_X5_back : yX5_back.cls = RX5 ∧ yX5_back.cls ≠ "java/lang/invoke/MethodHandle" ∧ yX5_back.cls ≠ "java/lang/invoke/VarHandle" ∧ (parseMethodDescriptor yX5_back.desc).map (fun d => d.parameters.length) = some 0 := by decide +kernel
/-! X5_told -/
def rmX5_told : Room := { frames := 2, cells := 0, slots := 0, locals := 42 }
def f_X5_told (N : Nat) (st : St) (x1 : Int32) : Option (Int32 × St) := if x1 = 0 then some (st 13 0, st) else if x1 = 1 then bd1 (f_X2_countCuts N st) fun r_4 => some (r_4, st) else if x1 = 2 then some (st 51 1, st) else if x1 = 3 then some (st 13 1, st) else bd2 (f_X5_finding st (-100001 : Int32)) fun r_8 st_9 => some (r_8, st_9)
set_option maxHeartbeats 4000000 in
set_option maxRecDepth 100000 in
theorem c_X5_told (l : Launch) (g : GP) (Y : va_W) (ad : Nat → Nat) (N : Nat) (x1 : Int32)  (st : St) {r : Int32} {st' : St} (h : f_X5_told N st x1 = some (r, st')) : MetI l yX5_told wsX5_told rmX5_told g (wCX g Y ad) [.ref (ad 0), .int x1] st (r) st' := by
  refine metI_of (cc := cX5_told) (nL := 2) (ty := .int) (by decide) rfl (Nat.le_of_ble_eq_true rfl) rfl ?_
  intro p e s m below meth c Q A C hret H locs hI ls hl
  have C : Cx p s m _ c cX5_told 2 wsX5_told RX5 g A := C
  obtain ⟨hx, hb, hml, hown, hts⟩ := id C.1
  have hl : lv_has ls 2 [(0, .ref (ad 0)), (1, .int x1)] := hl
  have hinRX5 : ∀ w ∈ u_ws RX5 TX5 7, w ∈ wsX5_told := by decide +kernel
  have lk12 := hts (.fieldLink RX5 12 "GraveRows" "ground" "LGraveRows$Ground;") (by decide +kernel)
  have hinRX2 : ∀ w ∈ u_ws RX2 TX2 7, w ∈ wsX5_told := by decide +kernel
  have lk52 := hts (.fieldLink RX5 52 "GraveRows$Ground" "size" "I") (by decide +kernel)
  have lk282 := hts (.fieldLink RX5 282 "GraveRows" "findings" "I") (by decide +kernel)
  have lk198 := hts (.fieldLink RX5 198 "GraveRows$Ground" "waits" "I") (by decide +kernel)
  have lc47 := hts (.constant RX5 47 (-100001)) (by decide +kernel)
  rw [f_X5_told] at h
  refine lv_iload_n hx hb dX5_told_0 rfl (lv_at hl 1 rfl) ?_
  by_cases c_1 : x1 = 0
  · replace h := (if_pos c_1).symm.trans h
    refine top_eq c_1 ?_
    refine lv_tableIn (tgt := 32) hx hb dX5_told_1 (by decide) (by decide) (by rfl) (by decide) ?_
    refine lv_aload_n hx hb dX5_told_32 rfl (lv_at hl 0 rfl) ?_
    refine w_get (v := .ref (ad 1)) C hinRX5 hI 0 at_C rfl 0 (by decide) lk12 rfl rfl dX5_told_33 ?_
    refine w_get (v := .int (st 13 0)) C hinRX2 hI 1 at_G0 rfl 5 (by decide) lk52 rfl rfl dX5_told_36 ?_
    obtain ⟨rfl, rfl⟩ := ret2 h
    exact hret H locs _ ls hI dX5_told_39
  replace h := (if_neg c_1).symm.trans h
  by_cases c_2 : x1 = 1
  · replace h := (if_pos c_2).symm.trans h
    refine top_eq c_2 ?_
    refine lv_tableIn (tgt := 40) hx hb dX5_told_1 (by decide) (by decide) (by rfl) (by decide) ?_
    refine lv_aload_n hx hb dX5_told_40 rfl (lv_at hl 0 rfl) ?_
    refine w_get (v := .ref (ad 1)) C hinRX5 hI 0 at_C rfl 0 (by decide) lk12 rfl rfl dX5_told_41 ?_
    obtain ⟨r_4, hr_3, h⟩ := bd1_some h
    refine callV_I (rest := []) C hI (c_X2_countCuts l g Y ad N st hr_3) (cwV 0 hts gX5_told_X2_countCuts rfl rfl rfl hv_X2_countCuts ⟨Nat.le_of_ble_eq_true rfl, Nat.le_of_ble_eq_true rfl⟩) (w_recv C hI 1 at_G0 rfl) rfl hl.1 rfl (Nat.le_of_ble_eq_true rfl) dX5_told_44 (fun H locs hI => ?_)
    obtain ⟨rfl, rfl⟩ := ret2 h
    exact hret H locs _ ls hI dX5_told_47
  replace h := (if_neg c_2).symm.trans h
  by_cases c_5 : x1 = 2
  · replace h := (if_pos c_5).symm.trans h
    refine top_eq c_5 ?_
    refine lv_tableIn (tgt := 48) hx hb dX5_told_1 (by decide) (by decide) (by rfl) (by decide) ?_
    refine lv_aload_n hx hb dX5_told_48 rfl (lv_at hl 0 rfl) ?_
    refine w_get (v := .int (st 51 1)) C hinRX5 hI 0 at_C rfl 6 (by decide) lk282 rfl rfl dX5_told_49 ?_
    obtain ⟨rfl, rfl⟩ := ret2 h
    exact hret H locs _ ls hI dX5_told_52
  replace h := (if_neg c_5).symm.trans h
  by_cases c_6 : x1 = 3
  · replace h := (if_pos c_6).symm.trans h
    refine top_eq c_6 ?_
    refine lv_tableIn (tgt := 53) hx hb dX5_told_1 (by decide) (by decide) (by rfl) (by decide) ?_
    refine lv_aload_n hx hb dX5_told_53 rfl (lv_at hl 0 rfl) ?_
    refine w_get (v := .ref (ad 1)) C hinRX5 hI 0 at_C rfl 0 (by decide) lk12 rfl rfl dX5_told_54 ?_
    refine w_get (v := .int (st 13 1)) C hinRX2 hI 1 at_G0 rfl 6 (by decide) lk198 rfl rfl dX5_told_57 ?_
    obtain ⟨rfl, rfl⟩ := ret2 h
    exact hret H locs _ ls hI dX5_told_60
  replace h := (if_neg c_6).symm.trans h
  refine lv_tableOut (tgt := 61) hx hb dX5_told_1 (tab_out4 c_1 c_2 c_5 c_6) (by decide) ?_
  refine lv_aload_n hx hb dX5_told_61 rfl (lv_at hl 0 rfl) ?_
  refine lv_ldc (v := (-100001)) hx hb hown lc47 dX5_told_62 ?_
  obtain ⟨r_8, st_9, hr_7, h⟩ := bd2_some h
  refine callV_I (rest := []) C hI (c_X5_finding l g Y ad (-100001 : Int32) st hr_7) (cwV 1 hts gX5_told_X5_finding rfl rfl rfl hv_X5_finding ⟨Nat.le_of_ble_eq_true rfl, Nat.le_of_ble_eq_true rfl⟩) (w_recv C hI 0 at_C rfl) rfl hl.1 rfl (Nat.le_of_ble_eq_true rfl) dX5_told_64 (fun H locs hI => ?_)
  obtain ⟨rfl, rfl⟩ := ret2 h
  exact hret H locs _ ls hI dX5_told_67
theorem hv_X5_told : yX5_told.cls = RX5 ∧ yX5_told.cls ≠ "java/lang/invoke/MethodHandle" ∧ yX5_told.cls ≠ "java/lang/invoke/VarHandle" ∧ (parseMethodDescriptor yX5_told.desc).map (fun d => d.parameters.length) = some 1 := by decide +kernel
