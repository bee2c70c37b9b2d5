/-! X2_fitsBehind -/
def rmX2_fitsBehind : Room := { frames := 1, cells := 0, slots := 0, locals := 21 }
def f_X2_fitsBehind (st : St) (x1 : Int32) (x2 : Int32) (x3 : Int32) : Option (Bool) := if x3 ≤ x2 then some false else ck 12 x2 fun j_2 => bnd (f_X2_holds st (st 11 j_2)) fun r_3 => if b2i r_3 = 0 then some false else ck 12 x2 fun j_5 => bnd (st 11 j_5) fun v_6 => bnd (f_X5_isIn x1 v_6) fun r_7 => if b2i r_7 = 0 then ck 10 v_6 fun j_9 => if (st 6 j_9) &&& (x1 ^^^ (-1 : Int32)) = 0 then some true else some false else some false
set_option maxHeartbeats 4000000 in
set_option maxRecDepth 100000 in
theorem c_X2_fitsBehind (l : Launch) (g : GP) (Y : va_W) (ad : Nat → Nat) (x1 : Int32) (x2 : Int32) (x3 : Int32)  (st : St) {r : Bool}  (h : f_X2_fitsBehind st x1 x2 x3 = some r) : MetI l yX2_fitsBehind wsX2_fitsBehind rmX2_fitsBehind g (wCX g Y ad) [.ref (ad 1), .int x1, .int x2, .int x3] st (b2i r) st := by
  refine metI_of (cc := cX2_fitsBehind) (nL := 5) (ty := .boolean) (by decide) rfl (Nat.le_of_ble_eq_true rfl) (nar_b _) ?_
  intro p e s m below meth c Q A C hret H locs hI ls hl
  have C : Cx p s m _ c cX2_fitsBehind 5 wsX2_fitsBehind RX2 g A := C
  obtain ⟨hx, hb, hml, hown, hts⟩ := id C.1
  have hl : lv_has ls 5 [(0, .ref (ad 1)), (1, .int x1), (2, .int x2), (3, .int x3)] := hl
  have hinRX2 : ∀ w ∈ u_ws RX2 TX2 7, w ∈ wsX2_fitsBehind := by decide +kernel
  have lk24 := hts (.fieldLink RX2 24 "GraveRows$Ground" "waiting" "[I") (by decide +kernel)
  have iniRX5 := hts (.initialized RX5) (by decide +kernel)
  have staX5_isIn := hts (.static yX5_isIn) (by decide +kernel)
  have lk11 := hts (.fieldLink RX2 11 "GraveRows$Ground" "graves" "[LGraveRows$Grave;") (by decide +kernel)
  have hinRX1 : ∀ w ∈ u_ws RX1 TX1 9, w ∈ wsX2_fitsBehind := by decide +kernel
  have lk52 := hts (.fieldLink RX2 52 "GraveRows$Grave" "cuts" "I") (by decide +kernel)
  rw [f_X2_fitsBehind] at h
  refine lv_iload_n hx hb dX2_fitsBehind_0 rfl (lv_at hl 2 rfl) ?_
  refine lv_iload_n hx hb dX2_fitsBehind_1 rfl (lv_at hl 3 rfl) ?_
  refine lv_icmp_ge (tgt := 18) hx hb dX2_fitsBehind_2 (by decide) (fun c_1 => ?_) (fun c_1 => ?_)
  · replace h := (if_pos c_1).symm.trans h
    refine lv_iconst (v := 0) hx hb dX2_fitsBehind_18 (by decide) ?_
    obtain rfl := ret1 h
    exact hret H locs _ ls hI dX2_fitsBehind_19
  · replace h := (if_neg c_1).symm.trans h
    refine lv_aload_n hx hb dX2_fitsBehind_5 rfl (lv_at hl 0 rfl) ?_
    refine lv_aload_n hx hb dX2_fitsBehind_6 rfl (lv_at hl 0 rfl) ?_
    refine w_get (v := .ref (ad 5)) C hinRX2 hI 1 at_G0 rfl 3 (by decide) lk24 rfl rfl dX2_fitsBehind_7 ?_
    refine lv_iload_n hx hb dX2_fitsBehind_10 rfl (lv_at hl 2 rfl) ?_
    refine w_ld C hI 5 ar_5 h dX2_fitsBehind_11 (fun j_2 hj_2 h => ?_)
    refine callV_I (rest := []) C hI (c_X2_holds l g Y ad (st 11 j_2) st) (cwV 1 hts gX2_fitsBehind_X2_holds rfl rfl rfl hv_X2_holds ⟨Nat.le_of_ble_eq_true rfl, Nat.le_of_ble_eq_true rfl⟩) (w_recv C hI 1 at_G0 rfl) rfl hl.1 rfl (Nat.le_of_ble_eq_true rfl) dX2_fitsBehind_12 (fun H locs hI => ?_)
    refine gen_b h (fun r_3 h => ?_)
    refine lv_if_ne (tgt := 20) hx hb dX2_fitsBehind_15 (by decide) (fun c_4 => ?_) (fun c_4 => ?_)
    · replace h := (if_neg c_4).symm.trans h
      refine lv_aload_n hx hb dX2_fitsBehind_20 rfl (lv_at hl 0 rfl) ?_
      refine w_get (v := .ref (ad 5)) C hinRX2 hI 1 at_G0 rfl 3 (by decide) lk24 rfl rfl dX2_fitsBehind_21 ?_
      refine lv_iload_n hx hb dX2_fitsBehind_24 rfl (lv_at hl 2 rfl) ?_
      refine w_ld C hI 5 ar_5 h dX2_fitsBehind_25 (fun j_5 hj_5 h => ?_)
      refine gen_i h (fun v_6 h => ?_)
      refine lv_istore (lv' := [(4, .int v_6), (0, .ref (ad 1)), (1, .int x1), (2, .int x2), (3, .int x3)]) hx hb dX2_fitsBehind_26 hl (by decide) rfl (fun ls hl => ?_)
      refine lv_iload_n hx hb dX2_fitsBehind_28 rfl (lv_at hl 2 rfl) ?_
      refine lv_iload hx hb dX2_fitsBehind_29 (lv_at hl 0 rfl) ?_
      refine callN_S (rest := []) C.1 (c_X5_isIn l x1 v_6) ⟨va_cnB 2 hts gX2_fitsBehind_X5_isIn_n61 rfl rfl rfl C.2.2.1 iniRX5 hd_X5_isIn ⟨Nat.le_of_ble_eq_true rfl, Nat.le_of_ble_eq_true rfl⟩, staX5_isIn, trivial⟩ rfl hl.1 rfl (Nat.le_of_ble_eq_true rfl) dX2_fitsBehind_31 ?_
      refine gen_b h (fun r_7 h => ?_)
      refine lv_if_ne (tgt := 58) hx hb dX2_fitsBehind_34 (by decide) (fun c_8 => ?_) (fun c_8 => ?_)
      · replace h := (if_neg c_8).symm.trans h
        refine lv_iconst (v := 0) hx hb dX2_fitsBehind_58 (by decide) ?_
        obtain rfl := ret1 h
        exact hret H locs _ ls hI dX2_fitsBehind_59
      · replace h := (if_pos c_8).symm.trans h
        refine lv_aload_n hx hb dX2_fitsBehind_37 rfl (lv_at hl 1 rfl) ?_
        refine w_get (v := .ref (ad 2)) C hinRX2 hI 1 at_G0 rfl 0 (by decide) lk11 rfl rfl dX2_fitsBehind_38 ?_
        refine lv_iload hx hb dX2_fitsBehind_41 (lv_at hl 0 rfl) ?_
        refine w_ald (t0 := 2) (fa := fun j => ad (7 + j)) C hI 2 ra_2 rfl (fun _ => rfl) h dX2_fitsBehind_43 (fun j_9 hj_9 h => ?_)
        refine w_get (v := .int (st 6 j_9)) C hinRX1 hI (7 + j_9) (at_V0 hj_9) rfl 6 (by decide) lk52 rfl rfl dX2_fitsBehind_44 ?_
        refine lv_iload_n hx hb dX2_fitsBehind_47 rfl (lv_at hl 2 rfl) ?_
        refine lv_iconst (v := (-1)) hx hb dX2_fitsBehind_48 (by decide) ?_
        refine lv_ixor hx hb dX2_fitsBehind_49 ?_
        refine lv_iand hx hb dX2_fitsBehind_50 ?_
        refine lv_if_ne (tgt := 58) hx hb dX2_fitsBehind_51 (by decide) (fun c_10 => ?_) (fun c_10 => ?_)
        · replace h := (if_neg c_10).symm.trans h
          refine lv_iconst (v := 0) hx hb dX2_fitsBehind_58 (by decide) ?_
          obtain rfl := ret1 h
          exact hret H locs _ ls hI dX2_fitsBehind_59
        · replace h := (if_pos c_10).symm.trans h
          refine lv_iconst (v := 1) hx hb dX2_fitsBehind_54 (by decide) ?_
          refine lv_goto (tgt := 59) hx hb dX2_fitsBehind_55 (by decide) ?_
          obtain rfl := ret1 h
          exact hret H locs _ ls hI dX2_fitsBehind_59
    · replace h := (if_pos c_4).symm.trans h
      refine lv_iconst (v := 0) hx hb dX2_fitsBehind_18 (by decide) ?_
      obtain rfl := ret1 h
      exact hret H locs _ ls hI dX2_fitsBehind_19
theorem hv_X2_fitsBehind : yX2_fitsBehind.cls = RX2 ∧ yX2_fitsBehind.cls ≠ "java/lang/invoke/MethodHandle" ∧ yX2_fitsBehind.cls ≠ "java/lang/invoke/VarHandle" ∧ (parseMethodDescriptor yX2_fitsBehind.desc).map (fun d => d.parameters.length) = some 3 := by decide +kernel
/-! X2_costOfWaiting -/
def rmX2_costOfWaiting : Room := { frames := 2, cells := 0, slots := 0, locals := 43 }
def f_X2_costOfWaiting_L35 (N : Nat) (x1 : Int32) (x2 : Int32) (x3 : Int32) (y4 : Nat) (st : St) (k : Int32 → Int32 → Option (Int32)) : Nat → Int32 → Int32 → Option (Int32)
  | 0, _, _ => none
  | n + 1, x5, x6 => if st 13 0 ≤ x6 then k x5 x6 else ck 12 x6 fun j_6 => ck 10 (st 11 j_6) fun j_7 => bnd (x5 ||| (st 3 j_7)) fun v_8 => f_X2_costOfWaiting_L35 N x1 x2 x3 y4 st k n v_8 (x6 + 1)
def f_X2_costOfWaiting_L6 (N : Nat) (st : St) (k : Int32 → Int32 → Int32 → Option (Int32)) : Nat → Int32 → Int32 → Int32 → Option (Int32)
  | 0, _, _, _ => none
  | n + 1, x1, x2, x3 => if st 13 0 ≤ x3 then k x1 x2 x3 else ck 12 x3 fun j_2 => ck 10 (st 11 j_2) fun j_3 => bnd (x3 + 1) fun v_4 => f_X2_costOfWaiting_L35 N x1 x2 x3 j_3 st (fun a_9 a_10 => bd1 (f_X1_goodsSurelyLacked N st j_3) fun r_12 => bnd (f_J6_bitCount_0f7a4 ((x2 &&& a_9) &&& r_12)) fun r_13 => bnd (x1 + r_13) fun v_14 => bnd (x2 ||| (st 3 j_3)) fun v_15 => f_X2_costOfWaiting_L6 N st k n v_14 v_15 (x3 + 1)) N 0 v_4
def f_X2_costOfWaiting (N : Nat) (st : St) : Option (Int32) := f_X2_costOfWaiting_L6 N st (fun a_16 a_17 a_18 => some a_16) N 0 0 0
set_option maxHeartbeats 4000000 in
set_option maxRecDepth 100000 in
theorem wl_X2_costOfWaiting_L35 {p : Program} {l : Launch} {e : Env} {s : State} {m : MethodId} {args : Array Value} {below : List Frame} {meth : Method} {c : Code} {Q : State → Prop} {A : Nat → Prop} {g : GP} {Y : va_W} {ad : Nat → Nat} {r : Int32}  (C : Cx p s m args c cX2_costOfWaiting 7 wsX2_costOfWaiting RX2 g A) (st : St) (hret : RetI p l e rmX2_costOfWaiting s m args below meth c Q cX2_costOfWaiting g A (wCX g Y ad st) (r)) (N : Nat) (x1 : Int32) (x2 : Int32) (x3 : Int32) (y4 : Nat) (hy4 : y4 < 10) (k : Int32 → Int32 → Option (Int32)) (hk : ∀ (x5 : Int32) (x6 : Int32) (H : Heap) (locs : List Loc) (ls : Array Slot), k x5 x6 = some r → IW g A s.heap (wCX g Y ad st) H locs → lv_has ls 7 [(0, .ref (ad 1)), (1, .int x1), (2, .int x2), (3, .int x3), (4, .ref (ad (7 + y4))), (5, .int x5), (6, .int x6)] → W p l e rmX2_costOfWaiting s m args below meth c H locs 0 0 Q (F0 m 70 ls [])) : ∀ (n : Nat) (x5 : Int32) (x6 : Int32) (H : Heap) (locs : List Loc) (ls : Array Slot), f_X2_costOfWaiting_L35 N x1 x2 x3 y4 st k n x5 x6 = some r → IW g A s.heap (wCX g Y ad st) H locs → lv_has ls 7 [(0, .ref (ad 1)), (1, .int x1), (2, .int x2), (3, .int x3), (4, .ref (ad (7 + y4))), (5, .int x5), (6, .int x6)] → W p l e rmX2_costOfWaiting s m args below meth c H locs 0 0 Q (F0 m 35 ls []) := by
  obtain ⟨hx, hb, hml, hown, hts⟩ := id C.1
  have hinRX2 : ∀ w ∈ u_ws RX2 TX2 7, w ∈ wsX2_costOfWaiting := by decide +kernel
  have lk41 := hts (.fieldLink RX2 41 "GraveRows$Ground" "size" "I") (by decide +kernel)
  have lk11 := hts (.fieldLink RX2 11 "GraveRows$Ground" "graves" "[LGraveRows$Grave;") (by decide +kernel)
  have lk24 := hts (.fieldLink RX2 24 "GraveRows$Ground" "waiting" "[I") (by decide +kernel)
  have hinRX1 : ∀ w ∈ u_ws RX1 TX1 9, w ∈ wsX2_costOfWaiting := by decide +kernel
  have lk98 := hts (.fieldLink RX2 98 "GraveRows$Grave" "goods" "I") (by decide +kernel)
  intro n
  induction n with
  | zero =>
    intro x5 x6 H locs ls h hI hl
    rw [f_X2_costOfWaiting_L35] at h
    cases h
  | succ n ih =>
    intro x5 x6 H locs ls h hI hl
    rw [f_X2_costOfWaiting_L35] at h
    refine lv_iload hx hb dX2_costOfWaiting_35 (lv_at hl 6 rfl) ?_
    refine lv_aload_n hx hb dX2_costOfWaiting_37 rfl (lv_at hl 0 rfl) ?_
    refine w_get (v := .int (st 13 0)) C hinRX2 hI 1 at_G0 rfl 5 (by decide) lk41 rfl rfl dX2_costOfWaiting_38 ?_
    refine lv_icmp_ge (tgt := 70) hx hb dX2_costOfWaiting_41 (by decide) (fun c_5 => ?_) (fun c_5 => ?_)
    · replace h := (if_pos c_5).symm.trans h
      exact hk _ _ _ _ _ h hI (lv_sub hl [0, 1, 2, 3, 4, 5, 6] rfl)
    · replace h := (if_neg c_5).symm.trans h
      refine lv_iload hx hb dX2_costOfWaiting_44 (lv_at hl 5 rfl) ?_
      refine lv_aload_n hx hb dX2_costOfWaiting_46 rfl (lv_at hl 0 rfl) ?_
      refine w_get (v := .ref (ad 2)) C hinRX2 hI 1 at_G0 rfl 0 (by decide) lk11 rfl rfl dX2_costOfWaiting_47 ?_
      refine lv_aload_n hx hb dX2_costOfWaiting_50 rfl (lv_at hl 0 rfl) ?_
      refine w_get (v := .ref (ad 5)) C hinRX2 hI 1 at_G0 rfl 3 (by decide) lk24 rfl rfl dX2_costOfWaiting_51 ?_
      refine lv_iload hx hb dX2_costOfWaiting_54 (lv_at hl 6 rfl) ?_
      refine w_ld C hI 5 ar_5 h dX2_costOfWaiting_56 (fun j_6 hj_6 h => ?_)
      refine w_ald (t0 := 2) (fa := fun j => ad (7 + j)) C hI 2 ra_2 rfl (fun _ => rfl) h dX2_costOfWaiting_57 (fun j_7 hj_7 h => ?_)
      refine w_get (v := .int (st 3 j_7)) C hinRX1 hI (7 + j_7) (at_V0 hj_7) rfl 3 (by decide) lk98 rfl rfl dX2_costOfWaiting_58 ?_
      refine lv_ior hx hb dX2_costOfWaiting_61 ?_
      refine gen_i h (fun v_8 h => ?_)
      refine lv_istore (lv' := [(5, .int v_8), (0, .ref (ad 1)), (1, .int x1), (2, .int x2), (3, .int x3), (4, .ref (ad (7 + y4))), (6, .int x6)]) hx hb dX2_costOfWaiting_62 hl (by decide) rfl (fun ls hl => ?_)
      refine lv_iinc (v := x6 + 1) (lv' := [(6, .int (x6 + 1)), (5, .int v_8), (0, .ref (ad 1)), (1, .int x1), (2, .int x2), (3, .int x3), (4, .ref (ad (7 + y4)))]) hx hb dX2_costOfWaiting_64 hl (k := 6) rfl rfl (by decide) rfl (fun ls hl => ?_)
      refine lv_goto (tgt := 35) hx hb dX2_costOfWaiting_67 (by decide) ?_
      exact ih _ _ _ _ _ h hI (lv_sub hl [2, 3, 4, 5, 6, 1, 0] rfl)
set_option maxHeartbeats 4000000 in
set_option maxRecDepth 100000 in
theorem wl_X2_costOfWaiting_L6 {p : Program} {l : Launch} {e : Env} {s : State} {m : MethodId} {args : Array Value} {below : List Frame} {meth : Method} {c : Code} {Q : State → Prop} {A : Nat → Prop} {g : GP} {Y : va_W} {ad : Nat → Nat} {r : Int32}  (C : Cx p s m args c cX2_costOfWaiting 7 wsX2_costOfWaiting RX2 g A) (st : St) (hret : RetI p l e rmX2_costOfWaiting s m args below meth c Q cX2_costOfWaiting g A (wCX g Y ad st) (r)) (N : Nat)  (k : Int32 → Int32 → Int32 → Option (Int32)) (hk : ∀ (x1 : Int32) (x2 : Int32) (x3 : Int32) (H : Heap) (locs : List Loc) (ls : Array Slot), k x1 x2 x3 = some r → IW g A s.heap (wCX g Y ad st) H locs → lv_has ls 7 [(0, .ref (ad 1)), (1, .int x1), (2, .int x2), (3, .int x3)] → W p l e rmX2_costOfWaiting s m args below meth c H locs 0 0 Q (F0 m 100 ls [])) : ∀ (n : Nat) (x1 : Int32) (x2 : Int32) (x3 : Int32) (H : Heap) (locs : List Loc) (ls : Array Slot), f_X2_costOfWaiting_L6 N st k n x1 x2 x3 = some r → IW g A s.heap (wCX g Y ad st) H locs → lv_has ls 7 [(0, .ref (ad 1)), (1, .int x1), (2, .int x2), (3, .int x3)] → W p l e rmX2_costOfWaiting s m args below meth c H locs 0 0 Q (F0 m 6 ls []) := by
  obtain ⟨hx, hb, hml, hown, hts⟩ := id C.1
  have hinRX2 : ∀ w ∈ u_ws RX2 TX2 7, w ∈ wsX2_costOfWaiting := by decide +kernel
  have lk41 := hts (.fieldLink RX2 41 "GraveRows$Ground" "size" "I") (by decide +kernel)
  have lk11 := hts (.fieldLink RX2 11 "GraveRows$Ground" "graves" "[LGraveRows$Grave;") (by decide +kernel)
  have lk24 := hts (.fieldLink RX2 24 "GraveRows$Ground" "waiting" "[I") (by decide +kernel)
  have hinRX1 : ∀ w ∈ u_ws RX1 TX1 9, w ∈ wsX2_costOfWaiting := by decide +kernel
  have lk98 := hts (.fieldLink RX2 98 "GraveRows$Grave" "goods" "I") (by decide +kernel)
  intro n
  induction n with
  | zero =>
    intro x1 x2 x3 H locs ls h hI hl
    rw [f_X2_costOfWaiting_L6] at h
    cases h
  | succ n ih =>
    intro x1 x2 x3 H locs ls h hI hl
    rw [f_X2_costOfWaiting_L6] at h
    refine lv_iload_n hx hb dX2_costOfWaiting_6 rfl (lv_at hl 3 rfl) ?_
    refine lv_aload_n hx hb dX2_costOfWaiting_7 rfl (lv_at hl 0 rfl) ?_
    refine w_get (v := .int (st 13 0)) C hinRX2 hI 1 at_G0 rfl 5 (by decide) lk41 rfl rfl dX2_costOfWaiting_8 ?_
    refine lv_icmp_ge (tgt := 100) hx hb dX2_costOfWaiting_11 (by decide) (fun c_1 => ?_) (fun c_1 => ?_)
    · replace h := (if_pos c_1).symm.trans h
      exact hk _ _ _ _ _ _ h hI (lv_sub hl [0, 1, 2, 3] rfl)
    · replace h := (if_neg c_1).symm.trans h
      refine lv_aload_n hx hb dX2_costOfWaiting_14 rfl (lv_at hl 0 rfl) ?_
      refine w_get (v := .ref (ad 2)) C hinRX2 hI 1 at_G0 rfl 0 (by decide) lk11 rfl rfl dX2_costOfWaiting_15 ?_
      refine lv_aload_n hx hb dX2_costOfWaiting_18 rfl (lv_at hl 0 rfl) ?_
      refine w_get (v := .ref (ad 5)) C hinRX2 hI 1 at_G0 rfl 3 (by decide) lk24 rfl rfl dX2_costOfWaiting_19 ?_
      refine lv_iload_n hx hb dX2_costOfWaiting_22 rfl (lv_at hl 3 rfl) ?_
      refine w_ld C hI 5 ar_5 h dX2_costOfWaiting_23 (fun j_2 hj_2 h => ?_)
      refine w_ald (t0 := 2) (fa := fun j => ad (7 + j)) C hI 2 ra_2 rfl (fun _ => rfl) h dX2_costOfWaiting_24 (fun j_3 hj_3 h => ?_)
      refine lv_astore (lv' := [(4, .ref (ad (7 + j_3))), (0, .ref (ad 1)), (1, .int x1), (2, .int x2), (3, .int x3)]) hx hb dX2_costOfWaiting_25 hl (by decide) rfl (fun ls hl => ?_)
      refine lv_iconst (v := 0) hx hb dX2_costOfWaiting_27 (by decide) ?_
      refine lv_istore (lv' := [(5, .int 0), (4, .ref (ad (7 + j_3))), (0, .ref (ad 1)), (1, .int x1), (2, .int x2), (3, .int x3)]) hx hb dX2_costOfWaiting_28 hl (by decide) rfl (fun ls hl => ?_)
      refine lv_iload_n hx hb dX2_costOfWaiting_30 rfl (lv_at hl 5 rfl) ?_
      refine lv_iconst (v := 1) hx hb dX2_costOfWaiting_31 (by decide) ?_
      refine lv_iadd hx hb dX2_costOfWaiting_32 ?_
      refine gen_i h (fun v_4 h => ?_)
      refine lv_istore (lv' := [(6, .int v_4), (5, .int 0), (4, .ref (ad (7 + j_3))), (0, .ref (ad 1)), (1, .int x1), (2, .int x2), (3, .int x3)]) hx hb dX2_costOfWaiting_33 hl (by decide) rfl (fun ls hl => ?_)
      refine wl_X2_costOfWaiting_L35 C st hret N x1 x2 x3 j_3 hj_3 _ (fun a_9 a_10 H locs ls h hI hl => ?_) N 0 v_4 H locs ls h hI (lv_sub hl [3, 4, 5, 6, 2, 1, 0] rfl)
      refine lv_iload_n hx hb dX2_costOfWaiting_70 rfl (lv_at hl 1 rfl) ?_
      refine lv_iload_n hx hb dX2_costOfWaiting_71 rfl (lv_at hl 2 rfl) ?_
      refine lv_iload hx hb dX2_costOfWaiting_72 (lv_at hl 5 rfl) ?_
      refine lv_iand hx hb dX2_costOfWaiting_74 ?_
      refine lv_aload hx hb dX2_costOfWaiting_75 (lv_at hl 4 rfl) ?_
      obtain ⟨r_12, hr_11, h⟩ := bd1_some h
      refine callV_I (rest := [.int (x2 &&& a_9), .int x1]) C hI (c_X1_goodsSurelyLacked l g Y ad N j_3 hj_3 st hr_11) (cwV 0 hts gX2_costOfWaiting_X1_goodsSurelyLacked rfl rfl rfl hv_X1_goodsSurelyLacked ⟨Nat.le_of_ble_eq_true rfl, Nat.le_of_ble_eq_true rfl⟩) (w_recv C hI (7 + j_3) (at_V0 hj_3) rfl) rfl hl.1 rfl (Nat.le_of_ble_eq_true rfl) dX2_costOfWaiting_77 (fun H locs hI => ?_)
      refine lv_iand hx hb dX2_costOfWaiting_80 ?_
      refine callS_S (rest := [.int x1]) C.1 (c_J6_bitCount_0f7a4 l ((x2 &&& a_9) &&& r_12)) (va_cwS 1 hts gX2_costOfWaiting_J6_bitCount_0f7a4 rfl rfl rfl hd_J6_bitCount_0f7a4 ⟨Nat.le_of_ble_eq_true rfl, Nat.le_of_ble_eq_true rfl⟩) rfl hl.1 rfl (Nat.le_of_ble_eq_true rfl) dX2_costOfWaiting_81 ?_
      refine gen_i h (fun r_13 h => ?_)
      refine lv_iadd hx hb dX2_costOfWaiting_84 ?_
      refine gen_i h (fun v_14 h => ?_)
      refine lv_istore_n (lv' := [(1, .int v_14), (0, .ref (ad 1)), (2, .int x2), (3, .int x3), (4, .ref (ad (7 + j_3))), (5, .int a_9), (6, .int a_10)]) hx hb dX2_costOfWaiting_85 rfl hl (by decide) rfl (fun ls hl => ?_)
      refine lv_iload_n hx hb dX2_costOfWaiting_86 rfl (lv_at hl 2 rfl) ?_
      refine lv_aload hx hb dX2_costOfWaiting_87 (lv_at hl 4 rfl) ?_
      refine w_get (v := .int (st 3 j_3)) C hinRX1 hI (7 + j_3) (at_V0 hj_3) rfl 3 (by decide) lk98 rfl rfl dX2_costOfWaiting_89 ?_
      refine lv_ior hx hb dX2_costOfWaiting_92 ?_
      refine gen_i h (fun v_15 h => ?_)
      refine lv_istore_n (lv' := [(2, .int v_15), (1, .int v_14), (0, .ref (ad 1)), (3, .int x3), (4, .ref (ad (7 + j_3))), (5, .int a_9), (6, .int a_10)]) hx hb dX2_costOfWaiting_93 rfl hl (by decide) rfl (fun ls hl => ?_)
      refine lv_iinc (v := x3 + 1) (lv' := [(3, .int (x3 + 1)), (2, .int v_15), (1, .int v_14), (0, .ref (ad 1)), (4, .ref (ad (7 + j_3))), (5, .int a_9), (6, .int a_10)]) hx hb dX2_costOfWaiting_94 hl (k := 3) rfl rfl (by decide) rfl (fun ls hl => ?_)
      refine lv_goto (tgt := 6) hx hb dX2_costOfWaiting_97 (by decide) ?_
      exact ih _ _ _ _ _ _ h hI (lv_sub hl [3, 2, 1, 0] rfl)
set_option maxHeartbeats 4000000 in
set_option maxRecDepth 100000 in
theorem c_X2_costOfWaiting (l : Launch) (g : GP) (Y : va_W) (ad : Nat → Nat) (N : Nat)  (st : St) {r : Int32}  (h : f_X2_costOfWaiting N st = some r) : MetI l yX2_costOfWaiting wsX2_costOfWaiting rmX2_costOfWaiting g (wCX g Y ad) [.ref (ad 1)] st (r) st := by
  refine metI_of (cc := cX2_costOfWaiting) (nL := 7) (ty := .int) (by decide) rfl (Nat.le_of_ble_eq_true rfl) rfl ?_
  intro p e s m below meth c Q A C hret H locs hI ls hl
  have C : Cx p s m _ c cX2_costOfWaiting 7 wsX2_costOfWaiting RX2 g A := C
  obtain ⟨hx, hb, hml, hown, hts⟩ := id C.1
  have hl : lv_has ls 7 [(0, .ref (ad 1))] := hl
  rw [f_X2_costOfWaiting] at h
  refine lv_iconst (v := 0) hx hb dX2_costOfWaiting_0 (by decide) ?_
  refine lv_istore_n (lv' := [(1, .int 0), (0, .ref (ad 1))]) hx hb dX2_costOfWaiting_1 rfl hl (by decide) rfl (fun ls hl => ?_)
  refine lv_iconst (v := 0) hx hb dX2_costOfWaiting_2 (by decide) ?_
  refine lv_istore_n (lv' := [(2, .int 0), (1, .int 0), (0, .ref (ad 1))]) hx hb dX2_costOfWaiting_3 rfl hl (by decide) rfl (fun ls hl => ?_)
  refine lv_iconst (v := 0) hx hb dX2_costOfWaiting_4 (by decide) ?_
  refine lv_istore_n (lv' := [(3, .int 0), (2, .int 0), (1, .int 0), (0, .ref (ad 1))]) hx hb dX2_costOfWaiting_5 rfl hl (by decide) rfl (fun ls hl => ?_)
  refine wl_X2_costOfWaiting_L6 C st hret N _ (fun a_16 a_17 a_18 H locs ls h hI hl => ?_) N 0 0 0 H locs ls h hI (lv_sub hl [3, 2, 1, 0] rfl)
  refine lv_iload_n hx hb dX2_costOfWaiting_100 rfl (lv_at hl 1 rfl) ?_
  obtain rfl := ret1 h
  exact hret H locs _ ls hI dX2_costOfWaiting_101
theorem hv_X2_costOfWaiting : yX2_costOfWaiting.cls = RX2 ∧ yX2_costOfWaiting.cls ≠ "java/lang/invoke/MethodHandle" ∧ yX2_costOfWaiting.cls ≠ "java/lang/invoke/VarHandle" ∧ (parseMethodDescriptor yX2_costOfWaiting.desc).map (fun d => d.parameters.length) = some 0 := by decide +kernel
/-! X2_neighboursOf -/
def rmX2_neighboursOf : Room := { frames := 2, cells := 0, slots := 0, locals := 46 }
def f_X2_neighboursOf_L5 (N : Nat) (x1 : Int32) (x2 : Int32) (st : St) (k : Int32 → Int32 → Option (Int32)) : Nat → Int32 → Int32 → Option (Int32)
  | 0, _, _ => none
  | n + 1, x3, x4 => if st 13 0 ≤ x4 then k x3 x4 else ck 10 x1 fun j_2 => ck 10 x4 fun j_3 => bnd (f_X1_isWithin st j_2 x2 j_3) fun r_4 => if b2i r_4 = 0 then f_X2_neighboursOf_L5 N x1 x2 st k n x3 (x4 + 1) else bnd (x3 ||| ((1 : Int32) <<< (x4 &&& 31))) fun v_6 => f_X2_neighboursOf_L5 N x1 x2 st k n v_6 (x4 + 1)
def f_X2_neighboursOf (N : Nat) (st : St) (x1 : Int32) (x2 : Int32) : Option (Int32) := f_X2_neighboursOf_L5 N x1 x2 st (fun a_7 a_8 => some a_7) N 0 0
set_option maxHeartbeats 4000000 in
set_option maxRecDepth 100000 in
theorem wl_X2_neighboursOf_L5 {p : Program} {l : Launch} {e : Env} {s : State} {m : MethodId} {args : Array Value} {below : List Frame} {meth : Method} {c : Code} {Q : State → Prop} {A : Nat → Prop} {g : GP} {Y : va_W} {ad : Nat → Nat} {r : Int32}  (C : Cx p s m args c cX2_neighboursOf 5 wsX2_neighboursOf RX2 g A) (st : St) (hret : RetI p l e rmX2_neighboursOf s m args below meth c Q cX2_neighboursOf g A (wCX g Y ad st) (r)) (N : Nat) (x1 : Int32) (x2 : Int32)  (k : Int32 → Int32 → Option (Int32)) (hk : ∀ (x3 : Int32) (x4 : Int32) (H : Heap) (locs : List Loc) (ls : Array Slot), k x3 x4 = some r → IW g A s.heap (wCX g Y ad st) H locs → lv_has ls 5 [(0, .ref (ad 1)), (1, .int x1), (2, .int x2), (3, .int x3), (4, .int x4)] → W p l e rmX2_neighboursOf s m args below meth c H locs 0 0 Q (F0 m 47 ls [])) : ∀ (n : Nat) (x3 : Int32) (x4 : Int32) (H : Heap) (locs : List Loc) (ls : Array Slot), f_X2_neighboursOf_L5 N x1 x2 st k n x3 x4 = some r → IW g A s.heap (wCX g Y ad st) H locs → lv_has ls 5 [(0, .ref (ad 1)), (1, .int x1), (2, .int x2), (3, .int x3), (4, .int x4)] → W p l e rmX2_neighboursOf s m args below meth c H locs 0 0 Q (F0 m 5 ls []) := by
  obtain ⟨hx, hb, hml, hown, hts⟩ := id C.1
  have hinRX2 : ∀ w ∈ u_ws RX2 TX2 7, w ∈ wsX2_neighboursOf := by decide +kernel
  have lk41 := hts (.fieldLink RX2 41 "GraveRows$Ground" "size" "I") (by decide +kernel)
  have lk11 := hts (.fieldLink RX2 11 "GraveRows$Ground" "graves" "[LGraveRows$Grave;") (by decide +kernel)
  intro n
  induction n with
  | zero =>
    intro x3 x4 H locs ls h hI hl
    rw [f_X2_neighboursOf_L5] at h
    cases h
  | succ n ih =>
    intro x3 x4 H locs ls h hI hl
    rw [f_X2_neighboursOf_L5] at h
    refine lv_iload hx hb dX2_neighboursOf_5 (lv_at hl 4 rfl) ?_
    refine lv_aload_n hx hb dX2_neighboursOf_7 rfl (lv_at hl 0 rfl) ?_
    refine w_get (v := .int (st 13 0)) C hinRX2 hI 1 at_G0 rfl 5 (by decide) lk41 rfl rfl dX2_neighboursOf_8 ?_
    refine lv_icmp_ge (tgt := 47) hx hb dX2_neighboursOf_11 (by decide) (fun c_1 => ?_) (fun c_1 => ?_)
    · replace h := (if_pos c_1).symm.trans h
      exact hk _ _ _ _ _ h hI (lv_sub hl [0, 1, 2, 3, 4] rfl)
    · replace h := (if_neg c_1).symm.trans h
      refine lv_aload_n hx hb dX2_neighboursOf_14 rfl (lv_at hl 0 rfl) ?_
      refine w_get (v := .ref (ad 2)) C hinRX2 hI 1 at_G0 rfl 0 (by decide) lk11 rfl rfl dX2_neighboursOf_15 ?_
      refine lv_iload_n hx hb dX2_neighboursOf_18 rfl (lv_at hl 1 rfl) ?_
      refine w_ald (t0 := 2) (fa := fun j => ad (7 + j)) C hI 2 ra_2 rfl (fun _ => rfl) h dX2_neighboursOf_19 (fun j_2 hj_2 h => ?_)
      refine lv_iload_n hx hb dX2_neighboursOf_20 rfl (lv_at hl 2 rfl) ?_
      refine lv_aload_n hx hb dX2_neighboursOf_21 rfl (lv_at hl 0 rfl) ?_
      refine w_get (v := .ref (ad 2)) C hinRX2 hI 1 at_G0 rfl 0 (by decide) lk11 rfl rfl dX2_neighboursOf_22 ?_
      refine lv_iload hx hb dX2_neighboursOf_25 (lv_at hl 4 rfl) ?_
      refine w_ald (t0 := 2) (fa := fun j => ad (7 + j)) C hI 2 ra_2 rfl (fun _ => rfl) h dX2_neighboursOf_27 (fun j_3 hj_3 h => ?_)
      refine callV_I (rest := []) C hI (c_X1_isWithin l g Y ad j_2 x2 j_3 hj_2 hj_3 st) (cwV 2 hts gX2_neighboursOf_X1_isWithin rfl rfl rfl hv_X1_isWithin ⟨Nat.le_of_ble_eq_true rfl, Nat.le_of_ble_eq_true rfl⟩) (w_recv C hI (7 + j_2) (at_V0 hj_2) rfl) rfl hl.1 rfl (Nat.le_of_ble_eq_true rfl) dX2_neighboursOf_28 (fun H locs hI => ?_)
      refine gen_b h (fun r_4 h => ?_)
      refine lv_if_eq (tgt := 41) hx hb dX2_neighboursOf_31 (by decide) (fun c_5 => ?_) (fun c_5 => ?_)
      · replace h := (if_pos c_5).symm.trans h
        refine lv_iinc (v := x4 + 1) (lv' := [(4, .int (x4 + 1)), (0, .ref (ad 1)), (1, .int x1), (2, .int x2), (3, .int x3)]) hx hb dX2_neighboursOf_41 hl (k := 4) rfl rfl (by decide) rfl (fun ls hl => ?_)
        refine lv_goto (tgt := 5) hx hb dX2_neighboursOf_44 (by decide) ?_
        exact ih _ _ _ _ _ h hI (lv_sub hl [1, 2, 3, 4, 0] rfl)
      · replace h := (if_neg c_5).symm.trans h
        refine lv_iload_n hx hb dX2_neighboursOf_34 rfl (lv_at hl 3 rfl) ?_
        refine lv_iconst (v := 1) hx hb dX2_neighboursOf_35 (by decide) ?_
        refine lv_iload hx hb dX2_neighboursOf_36 (lv_at hl 4 rfl) ?_
        refine lv_ishl hx hb dX2_neighboursOf_38 ?_
        refine lv_ior hx hb dX2_neighboursOf_39 ?_
        refine gen_i h (fun v_6 h => ?_)
        refine lv_istore_n (lv' := [(3, .int v_6), (0, .ref (ad 1)), (1, .int x1), (2, .int x2), (4, .int x4)]) hx hb dX2_neighboursOf_40 rfl hl (by decide) rfl (fun ls hl => ?_)
        refine lv_iinc (v := x4 + 1) (lv' := [(4, .int (x4 + 1)), (3, .int v_6), (0, .ref (ad 1)), (1, .int x1), (2, .int x2)]) hx hb dX2_neighboursOf_41 hl (k := 4) rfl rfl (by decide) rfl (fun ls hl => ?_)
        refine lv_goto (tgt := 5) hx hb dX2_neighboursOf_44 (by decide) ?_
        exact ih _ _ _ _ _ h hI (lv_sub hl [2, 3, 4, 1, 0] rfl)
set_option maxHeartbeats 4000000 in
set_option maxRecDepth 100000 in
theorem c_X2_neighboursOf (l : Launch) (g : GP) (Y : va_W) (ad : Nat → Nat) (N : Nat) (x1 : Int32) (x2 : Int32)  (st : St) {r : Int32}  (h : f_X2_neighboursOf N st x1 x2 = some r) : MetI l yX2_neighboursOf wsX2_neighboursOf rmX2_neighboursOf g (wCX g Y ad) [.ref (ad 1), .int x1, .int x2] st (r) st := by
  refine metI_of (cc := cX2_neighboursOf) (nL := 5) (ty := .int) (by decide) rfl (Nat.le_of_ble_eq_true rfl) rfl ?_
  intro p e s m below meth c Q A C hret H locs hI ls hl
  have C : Cx p s m _ c cX2_neighboursOf 5 wsX2_neighboursOf RX2 g A := C
  obtain ⟨hx, hb, hml, hown, hts⟩ := id C.1
  have hl : lv_has ls 5 [(0, .ref (ad 1)), (1, .int x1), (2, .int x2)] := hl
  rw [f_X2_neighboursOf] at h
  refine lv_iconst (v := 0) hx hb dX2_neighboursOf_0 (by decide) ?_
  refine lv_istore_n (lv' := [(3, .int 0), (0, .ref (ad 1)), (1, .int x1), (2, .int x2)]) hx hb dX2_neighboursOf_1 rfl hl (by decide) rfl (fun ls hl => ?_)
  refine lv_iconst (v := 0) hx hb dX2_neighboursOf_2 (by decide) ?_
  refine lv_istore (lv' := [(4, .int 0), (3, .int 0), (0, .ref (ad 1)), (1, .int x1), (2, .int x2)]) hx hb dX2_neighboursOf_3 hl (by decide) rfl (fun ls hl => ?_)
  refine wl_X2_neighboursOf_L5 C st hret N x1 x2 _ (fun a_7 a_8 H locs ls h hI hl => ?_) N 0 0 H locs ls h hI (lv_sub hl [2, 3, 4, 1, 0] rfl)
  refine lv_iload_n hx hb dX2_neighboursOf_47 rfl (lv_at hl 3 rfl) ?_
  obtain rfl := ret1 h
  exact hret H locs _ ls hI dX2_neighboursOf_48
theorem hv_X2_neighboursOf : yX2_neighboursOf.cls = RX2 ∧ yX2_neighboursOf.cls ≠ "java/lang/invoke/MethodHandle" ∧ yX2_neighboursOf.cls ≠ "java/lang/invoke/VarHandle" ∧ (parseMethodDescriptor yX2_neighboursOf.desc).map (fun d => d.parameters.length) = some 2 := by decide +kernel
/-! X2_familyOf -/
def rmX2_familyOf : Room := { frames := 3, cells := 0, slots := 0, locals := 70 }
def f_X2_familyOf_L2 (N : Nat) (x1 : Int32) (x2 : Int32) (k : Int32 → St → Option (Int32 × St)) : Nat → Int32 → St → Option (Int32 × St)
  | 0, _, _ => none
  | n + 1, x3, st => if st 13 0 ≤ x3 then k x3 st else bd1 (f_X2_neighboursOf N st x3 x2) fun r_3 => sto 10 st 12 x3 r_3 fun st_4 => f_X2_familyOf_L2 N x1 x2 k n (x3 + 1) st_4
def f_X2_familyOf_L39 (N : Nat) (x1 : Int32) (x3 : Int32) (st : St) (k : Int32 → Option (Int32 × St)) : Nat → Int32 → Option (Int32 × St)
  | 0, _ => none
  | n + 1, x4 => if x1 ≤ x4 then k x4 else bnd (f_X5_isIn x3 x4) fun r_10 => if b2i r_10 = 0 then f_X2_familyOf_L39 N x1 x3 st k n (x4 + 1) else some (x4, st)
def f_X2_familyOf (N : Nat) (st : St) (x1 : Int32) (x2 : Int32) : Option (Int32 × St) := f_X2_familyOf_L2 N x1 x2 (fun a_5 st_6 => bd1 (f_X2_reachedFrom N st_6 ((1 : Int32) <<< (x1 &&& 31))) fun r_8 => f_X2_familyOf_L39 N x1 r_8 st_6 (fun a_12 => some (x1, st_6)) N 0) N 0 st
set_option maxHeartbeats 4000000 in
set_option maxRecDepth 100000 in
theorem wl_X2_familyOf_L2 {p : Program} {l : Launch} {e : Env} {s : State} {m : MethodId} {args : Array Value} {below : List Frame} {meth : Method} {c : Code} {Q : State → Prop} {A : Nat → Prop} {g : GP} {Y : va_W} {ad : Nat → Nat} {r : Int32} {st' : St} (C : Cx p s m args c cX2_familyOf 5 wsX2_familyOf RX2 g A) (hret : RetI p l e rmX2_familyOf s m args below meth c Q cX2_familyOf g A (wCX g Y ad st') (r)) (N : Nat) (x1 : Int32) (x2 : Int32)  (k : Int32 → St → Option (Int32 × St)) (hk : ∀ (x3 : Int32) (st : St) (H : Heap) (locs : List Loc) (ls : Array Slot), k x3 st = some (r, st') → IW g A s.heap (wCX g Y ad st) H locs → lv_has ls 5 [(0, .ref (ad 1)), (1, .int x1), (2, .int x2), (3, .int x3)] → W p l e rmX2_familyOf s m args below meth c H locs 0 0 Q (F0 m 28 ls [])) : ∀ (n : Nat) (x3 : Int32) (st : St) (H : Heap) (locs : List Loc) (ls : Array Slot), f_X2_familyOf_L2 N x1 x2 k n x3 st = some (r, st') → IW g A s.heap (wCX g Y ad st) H locs → lv_has ls 5 [(0, .ref (ad 1)), (1, .int x1), (2, .int x2), (3, .int x3)] → W p l e rmX2_familyOf s m args below meth c H locs 0 0 Q (F0 m 2 ls []) := by
  obtain ⟨hx, hb, hml, hown, hts⟩ := id C.1
  have hinRX2 : ∀ w ∈ u_ws RX2 TX2 7, w ∈ wsX2_familyOf := by decide +kernel
  have lk41 := hts (.fieldLink RX2 41 "GraveRows$Ground" "size" "I") (by decide +kernel)
  have lk27 := hts (.fieldLink RX2 27 "GraveRows$Ground" "steps" "[I") (by decide +kernel)
  intro n
  induction n with
  | zero =>
    intro x3 st H locs ls h hI hl
    rw [f_X2_familyOf_L2] at h
    cases h
  | succ n ih =>
    intro x3 st H locs ls h hI hl
    rw [f_X2_familyOf_L2] at h
    refine lv_iload_n hx hb dX2_familyOf_2 rfl (lv_at hl 3 rfl) ?_
    refine lv_aload_n hx hb dX2_familyOf_3 rfl (lv_at hl 0 rfl) ?_
    refine w_get (v := .int (st 13 0)) C hinRX2 hI 1 at_G0 rfl 5 (by decide) lk41 rfl rfl dX2_familyOf_4 ?_
    refine lv_icmp_ge (tgt := 28) hx hb dX2_familyOf_7 (by decide) (fun c_1 => ?_) (fun c_1 => ?_)
    · replace h := (if_pos c_1).symm.trans h
      exact hk _ _ _ _ _ h hI (lv_sub hl [0, 1, 2, 3] rfl)
    · replace h := (if_neg c_1).symm.trans h
      refine lv_aload_n hx hb dX2_familyOf_10 rfl (lv_at hl 0 rfl) ?_
      refine w_get (v := .ref (ad 6)) C hinRX2 hI 1 at_G0 rfl 4 (by decide) lk27 rfl rfl dX2_familyOf_11 ?_
      refine lv_iload_n hx hb dX2_familyOf_14 rfl (lv_at hl 3 rfl) ?_
      refine lv_aload_n hx hb dX2_familyOf_15 rfl (lv_at hl 0 rfl) ?_
      refine lv_iload_n hx hb dX2_familyOf_16 rfl (lv_at hl 3 rfl) ?_
      refine lv_iload_n hx hb dX2_familyOf_17 rfl (lv_at hl 2 rfl) ?_
      obtain ⟨r_3, hr_2, h⟩ := bd1_some h
      refine callV_I (rest := [.int x3, .ref (ad 6)]) C hI (c_X2_neighboursOf l g Y ad N x3 x2 st hr_2) (cwV 2 hts gX2_familyOf_X2_neighboursOf rfl rfl rfl hv_X2_neighboursOf ⟨Nat.le_of_ble_eq_true rfl, Nat.le_of_ble_eq_true rfl⟩) (w_recv C hI 1 at_G0 rfl) rfl hl.1 rfl (Nat.le_of_ble_eq_true rfl) dX2_familyOf_18 (fun H locs hI => ?_)
      refine w_st C hI 6 ar_6 sa_6 h dX2_familyOf_21 (fun st_4 H locs h hI => ?_)
      refine lv_iinc (v := x3 + 1) (lv' := [(3, .int (x3 + 1)), (0, .ref (ad 1)), (1, .int x1), (2, .int x2)]) hx hb dX2_familyOf_22 hl (k := 3) rfl rfl (by decide) rfl (fun ls hl => ?_)
      refine lv_goto (tgt := 2) hx hb dX2_familyOf_25 (by decide) ?_
      exact ih _ _ _ _ _ h hI (lv_sub hl [1, 2, 3, 0] rfl)
set_option maxHeartbeats 4000000 in
set_option maxRecDepth 100000 in
theorem wl_X2_familyOf_L39 {p : Program} {l : Launch} {e : Env} {s : State} {m : MethodId} {args : Array Value} {below : List Frame} {meth : Method} {c : Code} {Q : State → Prop} {A : Nat → Prop} {g : GP} {Y : va_W} {ad : Nat → Nat} {r : Int32} {st' : St} (C : Cx p s m args c cX2_familyOf 5 wsX2_familyOf RX2 g A) (hret : RetI p l e rmX2_familyOf s m args below meth c Q cX2_familyOf g A (wCX g Y ad st') (r)) (N : Nat) (x1 : Int32) (x3 : Int32) (st : St)  (k : Int32 → Option (Int32 × St)) (hk : ∀ (x4 : Int32) (H : Heap) (locs : List Loc) (ls : Array Slot), k x4 = some (r, st') → IW g A s.heap (wCX g Y ad st) H locs → lv_has ls 5 [(1, .int x1), (3, .int x3), (4, .int x4)] → W p l e rmX2_familyOf s m args below meth c H locs 0 0 Q (F0 m 63 ls [])) : ∀ (n : Nat) (x4 : Int32) (H : Heap) (locs : List Loc) (ls : Array Slot), f_X2_familyOf_L39 N x1 x3 st k n x4 = some (r, st') → IW g A s.heap (wCX g Y ad st) H locs → lv_has ls 5 [(1, .int x1), (3, .int x3), (4, .int x4)] → W p l e rmX2_familyOf s m args below meth c H locs 0 0 Q (F0 m 39 ls []) := by
  obtain ⟨hx, hb, hml, hown, hts⟩ := id C.1
  have iniRX5 := hts (.initialized RX5) (by decide +kernel)
  have staX5_isIn := hts (.static yX5_isIn) (by decide +kernel)
  intro n
  induction n with
  | zero =>
    intro x4 H locs ls h hI hl
    rw [f_X2_familyOf_L39] at h
    cases h
  | succ n ih =>
    intro x4 H locs ls h hI hl
    rw [f_X2_familyOf_L39] at h
    refine lv_iload hx hb dX2_familyOf_39 (lv_at hl 2 rfl) ?_
    refine lv_iload_n hx hb dX2_familyOf_41 rfl (lv_at hl 0 rfl) ?_
    refine lv_icmp_ge (tgt := 63) hx hb dX2_familyOf_42 (by decide) (fun c_9 => ?_) (fun c_9 => ?_)
    · replace h := (if_pos c_9).symm.trans h
      exact hk _ _ _ _ h hI (lv_sub hl [0, 1, 2] rfl)
    · replace h := (if_neg c_9).symm.trans h
      refine lv_iload_n hx hb dX2_familyOf_45 rfl (lv_at hl 1 rfl) ?_
      refine lv_iload hx hb dX2_familyOf_46 (lv_at hl 2 rfl) ?_
      refine callN_S (rest := []) C.1 (c_X5_isIn l x3 x4) ⟨va_cnB 2 hts gX2_familyOf_X5_isIn_n61 rfl rfl rfl C.2.2.1 iniRX5 hd_X5_isIn ⟨Nat.le_of_ble_eq_true rfl, Nat.le_of_ble_eq_true rfl⟩, staX5_isIn, trivial⟩ rfl hl.1 rfl (Nat.le_of_ble_eq_true rfl) dX2_familyOf_48 ?_
      refine gen_b h (fun r_10 h => ?_)
      refine lv_if_eq (tgt := 57) hx hb dX2_familyOf_51 (by decide) (fun c_11 => ?_) (fun c_11 => ?_)
      · replace h := (if_pos c_11).symm.trans h
        refine lv_iinc (v := x4 + 1) (lv' := [(4, .int (x4 + 1)), (1, .int x1), (3, .int x3)]) hx hb dX2_familyOf_57 hl (k := 2) rfl rfl (by decide) rfl (fun ls hl => ?_)
        refine lv_goto (tgt := 39) hx hb dX2_familyOf_60 (by decide) ?_
        exact ih _ _ _ _ h hI (lv_sub hl [1, 2, 0] rfl)
      · replace h := (if_neg c_11).symm.trans h
        refine lv_iload hx hb dX2_familyOf_54 (lv_at hl 2 rfl) ?_
        obtain ⟨rfl, rfl⟩ := ret2 h
        exact hret H locs _ ls hI dX2_familyOf_56
set_option maxHeartbeats 4000000 in
set_option maxRecDepth 100000 in
theorem c_X2_familyOf (l : Launch) (g : GP) (Y : va_W) (ad : Nat → Nat) (N : Nat) (x1 : Int32) (x2 : Int32)  (st : St) {r : Int32} {st' : St} (h : f_X2_familyOf N st x1 x2 = some (r, st')) : MetI l yX2_familyOf wsX2_familyOf rmX2_familyOf g (wCX g Y ad) [.ref (ad 1), .int x1, .int x2] st (r) st' := by
  refine metI_of (cc := cX2_familyOf) (nL := 5) (ty := .int) (by decide) rfl (Nat.le_of_ble_eq_true rfl) rfl ?_
  intro p e s m below meth c Q A C hret H locs hI ls hl
  have C : Cx p s m _ c cX2_familyOf 5 wsX2_familyOf RX2 g A := C
  obtain ⟨hx, hb, hml, hown, hts⟩ := id C.1
  have hl : lv_has ls 5 [(0, .ref (ad 1)), (1, .int x1), (2, .int x2)] := hl
  rw [f_X2_familyOf] at h
  refine lv_iconst (v := 0) hx hb dX2_familyOf_0 (by decide) ?_
  refine lv_istore_n (lv' := [(3, .int 0), (0, .ref (ad 1)), (1, .int x1), (2, .int x2)]) hx hb dX2_familyOf_1 rfl hl (by decide) rfl (fun ls hl => ?_)
  refine wl_X2_familyOf_L2 C hret N x1 x2 _ (fun a_5 st_6 H locs ls h hI hl => ?_) N 0 st H locs ls h hI (lv_sub hl [1, 2, 3, 0] rfl)
  refine lv_aload_n hx hb dX2_familyOf_28 rfl (lv_at hl 0 rfl) ?_
  refine lv_iconst (v := 1) hx hb dX2_familyOf_29 (by decide) ?_
  refine lv_iload_n hx hb dX2_familyOf_30 rfl (lv_at hl 1 rfl) ?_
  refine lv_ishl hx hb dX2_familyOf_31 ?_
  obtain ⟨r_8, hr_7, h⟩ := bd1_some h
  refine callV_I (rest := []) C hI (c_X2_reachedFrom l g Y ad N ((1 : Int32) <<< (x1 &&& 31)) st_6 hr_7) (cwV 1 hts gX2_familyOf_X2_reachedFrom rfl rfl rfl hv_X2_reachedFrom ⟨Nat.le_of_ble_eq_true rfl, Nat.le_of_ble_eq_true rfl⟩) (w_recv C hI 1 at_G0 rfl) rfl hl.1 rfl (Nat.le_of_ble_eq_true rfl) dX2_familyOf_32 (fun H locs hI => ?_)
  refine lv_istore_n (lv' := [(3, .int r_8), (0, .ref (ad 1)), (1, .int x1), (2, .int x2)]) hx hb dX2_familyOf_35 rfl hl (by decide) rfl (fun ls hl => ?_)
  refine lv_iconst (v := 0) hx hb dX2_familyOf_36 (by decide) ?_
  refine lv_istore (lv' := [(4, .int 0), (3, .int r_8), (0, .ref (ad 1)), (1, .int x1), (2, .int x2)]) hx hb dX2_familyOf_37 hl (by decide) rfl (fun ls hl => ?_)
  refine wl_X2_familyOf_L39 C hret N x1 r_8 st_6 _ (fun a_12 H locs ls h hI hl => ?_) N 0 H locs ls h hI (lv_sub hl [3, 1, 0] rfl)
  refine lv_iload_n hx hb dX2_familyOf_63 rfl (lv_at hl 0 rfl) ?_
  obtain ⟨rfl, rfl⟩ := ret2 h
  exact hret H locs _ ls hI dX2_familyOf_64
theorem hv_X2_familyOf : yX2_familyOf.cls = RX2 ∧ yX2_familyOf.cls ≠ "java/lang/invoke/MethodHandle" ∧ yX2_familyOf.cls ≠ "java/lang/invoke/VarHandle" ∧ (parseMethodDescriptor yX2_familyOf.desc).map (fun d => d.parameters.length) = some 2 := by decide +kernel
/-! X2_sharedGoods -/
def rmX2_sharedGoods : Room := { frames := 1, cells := 0, slots := 0, locals := 20 }
def f_X2_sharedGoods (st : St) (x1 : Int32) (x2 : Int32) : Option (Int32) := ck 10 x1 fun j_1 => ck 10 x2 fun j_2 => bnd (f_J6_bitCount_0f7a4 ((st 3 j_1) &&& (st 3 j_2))) fun r_3 => some r_3
set_option maxHeartbeats 4000000 in
set_option maxRecDepth 100000 in
theorem c_X2_sharedGoods (l : Launch) (g : GP) (Y : va_W) (ad : Nat → Nat) (x1 : Int32) (x2 : Int32)  (st : St) {r : Int32}  (h : f_X2_sharedGoods st x1 x2 = some r) : MetI l yX2_sharedGoods wsX2_sharedGoods rmX2_sharedGoods g (wCX g Y ad) [.ref (ad 1), .int x1, .int x2] st (r) st := by
  refine metI_of (cc := cX2_sharedGoods) (nL := 3) (ty := .int) (by decide) rfl (Nat.le_of_ble_eq_true rfl) rfl ?_
  intro p e s m below meth c Q A C hret H locs hI ls hl
  have C : Cx p s m _ c cX2_sharedGoods 3 wsX2_sharedGoods RX2 g A := C
  obtain ⟨hx, hb, hml, hown, hts⟩ := id C.1
  have hl : lv_has ls 3 [(0, .ref (ad 1)), (1, .int x1), (2, .int x2)] := hl
  have hinRX2 : ∀ w ∈ u_ws RX2 TX2 7, w ∈ wsX2_sharedGoods := by decide +kernel
  have lk11 := hts (.fieldLink RX2 11 "GraveRows$Ground" "graves" "[LGraveRows$Grave;") (by decide +kernel)
  have hinRX1 : ∀ w ∈ u_ws RX1 TX1 9, w ∈ wsX2_sharedGoods := by decide +kernel
  have lk98 := hts (.fieldLink RX2 98 "GraveRows$Grave" "goods" "I") (by decide +kernel)
  rw [f_X2_sharedGoods] at h
  refine lv_aload_n hx hb dX2_sharedGoods_0 rfl (lv_at hl 0 rfl) ?_
  refine w_get (v := .ref (ad 2)) C hinRX2 hI 1 at_G0 rfl 0 (by decide) lk11 rfl rfl dX2_sharedGoods_1 ?_
  refine lv_iload_n hx hb dX2_sharedGoods_4 rfl (lv_at hl 1 rfl) ?_
  refine w_ald (t0 := 2) (fa := fun j => ad (7 + j)) C hI 2 ra_2 rfl (fun _ => rfl) h dX2_sharedGoods_5 (fun j_1 hj_1 h => ?_)
  refine w_get (v := .int (st 3 j_1)) C hinRX1 hI (7 + j_1) (at_V0 hj_1) rfl 3 (by decide) lk98 rfl rfl dX2_sharedGoods_6 ?_
  refine lv_aload_n hx hb dX2_sharedGoods_9 rfl (lv_at hl 0 rfl) ?_
  refine w_get (v := .ref (ad 2)) C hinRX2 hI 1 at_G0 rfl 0 (by decide) lk11 rfl rfl dX2_sharedGoods_10 ?_
  refine lv_iload_n hx hb dX2_sharedGoods_13 rfl (lv_at hl 2 rfl) ?_
  refine w_ald (t0 := 2) (fa := fun j => ad (7 + j)) C hI 2 ra_2 rfl (fun _ => rfl) h dX2_sharedGoods_14 (fun j_2 hj_2 h => ?_)
  refine w_get (v := .int (st 3 j_2)) C hinRX1 hI (7 + j_2) (at_V0 hj_2) rfl 3 (by decide) lk98 rfl rfl dX2_sharedGoods_15 ?_
  refine lv_iand hx hb dX2_sharedGoods_18 ?_
  refine callS_S (rest := []) C.1 (c_J6_bitCount_0f7a4 l ((st 3 j_1) &&& (st 3 j_2))) (va_cwS 1 hts gX2_sharedGoods_J6_bitCount_0f7a4 rfl rfl rfl hd_J6_bitCount_0f7a4 ⟨Nat.le_of_ble_eq_true rfl, Nat.le_of_ble_eq_true rfl⟩) rfl hl.1 rfl (Nat.le_of_ble_eq_true rfl) dX2_sharedGoods_19 ?_
  refine gen_i h (fun r_3 h => ?_)
  obtain rfl := ret1 h
  exact hret H locs _ ls hI dX2_sharedGoods_22
theorem hv_X2_sharedGoods : yX2_sharedGoods.cls = RX2 ∧ yX2_sharedGoods.cls ≠ "java/lang/invoke/MethodHandle" ∧ yX2_sharedGoods.cls ≠ "java/lang/invoke/VarHandle" ∧ (parseMethodDescriptor yX2_sharedGoods.desc).map (fun d => d.parameters.length) = some 2 := by decide +kernel
/-! X2_joinedGoods -/
def rmX2_joinedGoods : Room := { frames := 1, cells := 0, slots := 0, locals := 24 }
def f_X2_joinedGoods (st : St) (x1 : Int32) (x2 : Int32) : Option (Int32) := ck 10 x1 fun j_1 => ck 10 x2 fun j_2 => bnd (f_J6_bitCount_0f7a4 ((st 3 j_1) ||| (st 3 j_2))) fun r_3 => some (imax 1 r_3)
set_option maxHeartbeats 4000000 in
set_option maxRecDepth 100000 in
theorem c_X2_joinedGoods (l : Launch) (g : GP) (Y : va_W) (ad : Nat → Nat) (x1 : Int32) (x2 : Int32)  (st : St) {r : Int32}  (h : f_X2_joinedGoods st x1 x2 = some r) : MetI l yX2_joinedGoods wsX2_joinedGoods rmX2_joinedGoods g (wCX g Y ad) [.ref (ad 1), .int x1, .int x2] st (r) st := by
  refine metI_of (cc := cX2_joinedGoods) (nL := 3) (ty := .int) (by decide) rfl (Nat.le_of_ble_eq_true rfl) rfl ?_
  intro p e s m below meth c Q A C hret H locs hI ls hl
  have C : Cx p s m _ c cX2_joinedGoods 3 wsX2_joinedGoods RX2 g A := C
  obtain ⟨hx, hb, hml, hown, hts⟩ := id C.1
  have hl : lv_has ls 3 [(0, .ref (ad 1)), (1, .int x1), (2, .int x2)] := hl
  have hinRX2 : ∀ w ∈ u_ws RX2 TX2 7, w ∈ wsX2_joinedGoods := by decide +kernel
  have lk11 := hts (.fieldLink RX2 11 "GraveRows$Ground" "graves" "[LGraveRows$Grave;") (by decide +kernel)
  have hinRX1 : ∀ w ∈ u_ws RX1 TX1 9, w ∈ wsX2_joinedGoods := by decide +kernel
  have lk98 := hts (.fieldLink RX2 98 "GraveRows$Grave" "goods" "I") (by decide +kernel)
  have ml77 := hts (.methodLink RX2 77 Lib.Math.max.name) (by decide +kernel)
  have msmax := hts (.static Lib.Math.max.name) (by decide +kernel)
  have mini := hts (.initialized "java/lang/Math") (by decide +kernel)
  have mcmax := hts (.code Lib.Math.max.name Lib.Math.max.code 2 (some .int)) (by decide +kernel)
  rw [f_X2_joinedGoods] at h
  refine lv_iconst (v := 1) hx hb dX2_joinedGoods_0 (by decide) ?_
  refine lv_aload_n hx hb dX2_joinedGoods_1 rfl (lv_at hl 0 rfl) ?_
  refine w_get (v := .ref (ad 2)) C hinRX2 hI 1 at_G0 rfl 0 (by decide) lk11 rfl rfl dX2_joinedGoods_2 ?_
  refine lv_iload_n hx hb dX2_joinedGoods_5 rfl (lv_at hl 1 rfl) ?_
  refine w_ald (t0 := 2) (fa := fun j => ad (7 + j)) C hI 2 ra_2 rfl (fun _ => rfl) h dX2_joinedGoods_6 (fun j_1 hj_1 h => ?_)
  refine w_get (v := .int (st 3 j_1)) C hinRX1 hI (7 + j_1) (at_V0 hj_1) rfl 3 (by decide) lk98 rfl rfl dX2_joinedGoods_7 ?_
  refine lv_aload_n hx hb dX2_joinedGoods_10 rfl (lv_at hl 0 rfl) ?_
  refine w_get (v := .ref (ad 2)) C hinRX2 hI 1 at_G0 rfl 0 (by decide) lk11 rfl rfl dX2_joinedGoods_11 ?_
  refine lv_iload_n hx hb dX2_joinedGoods_14 rfl (lv_at hl 2 rfl) ?_
  refine w_ald (t0 := 2) (fa := fun j => ad (7 + j)) C hI 2 ra_2 rfl (fun _ => rfl) h dX2_joinedGoods_15 (fun j_2 hj_2 h => ?_)
  refine w_get (v := .int (st 3 j_2)) C hinRX1 hI (7 + j_2) (at_V0 hj_2) rfl 3 (by decide) lk98 rfl rfl dX2_joinedGoods_16 ?_
  refine lv_ior hx hb dX2_joinedGoods_19 ?_
  refine callS_S (rest := [.int 1]) C.1 (c_J6_bitCount_0f7a4 l ((st 3 j_1) ||| (st 3 j_2))) (va_cwS 1 hts gX2_joinedGoods_J6_bitCount_0f7a4 rfl rfl rfl hd_J6_bitCount_0f7a4 ⟨Nat.le_of_ble_eq_true rfl, Nat.le_of_ble_eq_true rfl⟩) rfl hl.1 rfl (Nat.le_of_ble_eq_true rfl) dX2_joinedGoods_20 ?_
  refine gen_i h (fun r_3 h => ?_)
  refine w_mmax hx hb (hml.trans hl.1.symm) hown ml77 msmax mini mcmax (Nat.le_of_ble_eq_true rfl) (Nat.le_of_ble_eq_true rfl) dX2_joinedGoods_23 ?_
  obtain rfl := ret1 h
  exact hret H locs _ ls hI dX2_joinedGoods_26
theorem hv_X2_joinedGoods : yX2_joinedGoods.cls = RX2 ∧ yX2_joinedGoods.cls ≠ "java/lang/invoke/MethodHandle" ∧ yX2_joinedGoods.cls ≠ "java/lang/invoke/VarHandle" ∧ (parseMethodDescriptor yX2_joinedGoods.desc).map (fun d => d.parameters.length) = some 2 := by decide +kernel
/-! X2_mostLike -/
def rmX2_mostLike : Room := { frames := 2, cells := 0, slots := 0, locals := 46 }
def f_X2_mostLike_L10 (N : Nat) (x1 : Int32) (st : St) (k : Int32 → Int32 → Int32 → Int32 → Option (Int32)) : Nat → Int32 → Int32 → Int32 → Int32 → Option (Int32)
  | 0, _, _, _, _ => none
  | n + 1, x2, x3, x4, x5 => if st 13 0 ≤ x5 then k x2 x3 x4 x5 else if x5 = x1 then f_X2_mostLike_L10 N x1 st k n x2 x3 x4 (x5 + 1) else bd1 (f_X2_sharedGoods st x1 x5) fun r_4 => bd1 (f_X2_joinedGoods st x1 x5) fun r_6 => if x2 < 0 then f_X2_mostLike_L10 N x1 st k n x5 r_4 r_6 (x5 + 1) else if r_4 * x4 ≤ x3 * r_6 then f_X2_mostLike_L10 N x1 st k n x2 x3 x4 (x5 + 1) else f_X2_mostLike_L10 N x1 st k n x5 r_4 r_6 (x5 + 1)
def f_X2_mostLike (N : Nat) (st : St) (x1 : Int32) : Option (Int32) := f_X2_mostLike_L10 N x1 st (fun a_9 a_10 a_11 a_12 => some a_9) N (-1 : Int32) 0 1 0
set_option maxHeartbeats 4000000 in
set_option maxRecDepth 100000 in
theorem wl_X2_mostLike_L10 {p : Program} {l : Launch} {e : Env} {s : State} {m : MethodId} {args : Array Value} {below : List Frame} {meth : Method} {c : Code} {Q : State → Prop} {A : Nat → Prop} {g : GP} {Y : va_W} {ad : Nat → Nat} {r : Int32}  (C : Cx p s m args c cX2_mostLike 8 wsX2_mostLike RX2 g A) (st : St) (hret : RetI p l e rmX2_mostLike s m args below meth c Q cX2_mostLike g A (wCX g Y ad st) (r)) (N : Nat) (x1 : Int32)  (k : Int32 → Int32 → Int32 → Int32 → Option (Int32)) (hk : ∀ (x2 : Int32) (x3 : Int32) (x4 : Int32) (x5 : Int32) (H : Heap) (locs : List Loc) (ls : Array Slot), k x2 x3 x4 x5 = some r → IW g A s.heap (wCX g Y ad st) H locs → lv_has ls 8 [(0, .ref (ad 1)), (1, .int x1), (2, .int x2), (3, .int x3), (4, .int x4), (5, .int x5)] → W p l e rmX2_mostLike s m args below meth c H locs 0 0 Q (F0 m 78 ls [])) : ∀ (n : Nat) (x2 : Int32) (x3 : Int32) (x4 : Int32) (x5 : Int32) (H : Heap) (locs : List Loc) (ls : Array Slot), f_X2_mostLike_L10 N x1 st k n x2 x3 x4 x5 = some r → IW g A s.heap (wCX g Y ad st) H locs → lv_has ls 8 [(0, .ref (ad 1)), (1, .int x1), (2, .int x2), (3, .int x3), (4, .int x4), (5, .int x5)] → W p l e rmX2_mostLike s m args below meth c H locs 0 0 Q (F0 m 10 ls []) := by
  obtain ⟨hx, hb, hml, hown, hts⟩ := id C.1
  have hinRX2 : ∀ w ∈ u_ws RX2 TX2 7, w ∈ wsX2_mostLike := by decide +kernel
  have lk41 := hts (.fieldLink RX2 41 "GraveRows$Ground" "size" "I") (by decide +kernel)
  intro n
  induction n with
  | zero =>
    intro x2 x3 x4 x5 H locs ls h hI hl
    rw [f_X2_mostLike_L10] at h
    cases h
  | succ n ih =>
    intro x2 x3 x4 x5 H locs ls h hI hl
    rw [f_X2_mostLike_L10] at h
    refine lv_iload hx hb dX2_mostLike_10 (lv_at hl 5 rfl) ?_
    refine lv_aload_n hx hb dX2_mostLike_12 rfl (lv_at hl 0 rfl) ?_
    refine w_get (v := .int (st 13 0)) C hinRX2 hI 1 at_G0 rfl 5 (by decide) lk41 rfl rfl dX2_mostLike_13 ?_
    refine lv_icmp_ge (tgt := 78) hx hb dX2_mostLike_16 (by decide) (fun c_1 => ?_) (fun c_1 => ?_)
    · replace h := (if_pos c_1).symm.trans h
      exact hk _ _ _ _ _ _ _ h hI (lv_sub hl [0, 1, 2, 3, 4, 5] rfl)
    · replace h := (if_neg c_1).symm.trans h
      refine lv_iload hx hb dX2_mostLike_19 (lv_at hl 5 rfl) ?_
      refine lv_iload_n hx hb dX2_mostLike_21 rfl (lv_at hl 1 rfl) ?_
      refine lv_icmp_ne (tgt := 28) hx hb dX2_mostLike_22 (by decide) (fun c_2 => ?_) (fun c_2 => ?_)
      · replace h := (if_neg c_2).symm.trans h
        refine lv_aload_n hx hb dX2_mostLike_28 rfl (lv_at hl 0 rfl) ?_
        refine lv_iload_n hx hb dX2_mostLike_29 rfl (lv_at hl 1 rfl) ?_
        refine lv_iload hx hb dX2_mostLike_30 (lv_at hl 5 rfl) ?_
        obtain ⟨r_4, hr_3, h⟩ := bd1_some h
        refine callV_I (rest := []) C hI (c_X2_sharedGoods l g Y ad x1 x5 st hr_3) (cwV 2 hts gX2_mostLike_X2_sharedGoods rfl rfl rfl hv_X2_sharedGoods ⟨Nat.le_of_ble_eq_true rfl, Nat.le_of_ble_eq_true rfl⟩) (w_recv C hI 1 at_G0 rfl) rfl hl.1 rfl (Nat.le_of_ble_eq_true rfl) dX2_mostLike_32 (fun H locs hI => ?_)
        refine lv_istore (lv' := [(6, .int r_4), (0, .ref (ad 1)), (1, .int x1), (2, .int x2), (3, .int x3), (4, .int x4), (5, .int x5)]) hx hb dX2_mostLike_35 hl (by decide) rfl (fun ls hl => ?_)
        refine lv_aload_n hx hb dX2_mostLike_37 rfl (lv_at hl 1 rfl) ?_
        refine lv_iload_n hx hb dX2_mostLike_38 rfl (lv_at hl 2 rfl) ?_
        refine lv_iload hx hb dX2_mostLike_39 (lv_at hl 6 rfl) ?_
        obtain ⟨r_6, hr_5, h⟩ := bd1_some h
        refine callV_I (rest := []) C hI (c_X2_joinedGoods l g Y ad x1 x5 st hr_5) (cwV 2 hts gX2_mostLike_X2_joinedGoods rfl rfl rfl hv_X2_joinedGoods ⟨Nat.le_of_ble_eq_true rfl, Nat.le_of_ble_eq_true rfl⟩) (w_recv C hI 1 at_G0 rfl) rfl hl.1 rfl (Nat.le_of_ble_eq_true rfl) dX2_mostLike_41 (fun H locs hI => ?_)
        refine lv_istore (lv' := [(7, .int r_6), (6, .int r_4), (0, .ref (ad 1)), (1, .int x1), (2, .int x2), (3, .int x3), (4, .int x4), (5, .int x5)]) hx hb dX2_mostLike_44 hl (by decide) rfl (fun ls hl => ?_)
        refine lv_iload_n hx hb dX2_mostLike_46 rfl (lv_at hl 4 rfl) ?_
        refine lv_if_lt (tgt := 62) hx hb dX2_mostLike_47 (by decide) (fun c_7 => ?_) (fun c_7 => ?_)
        · replace h := (if_pos c_7).symm.trans h
          refine lv_iload hx hb dX2_mostLike_62 (lv_at hl 7 rfl) ?_
          refine lv_istore_n (lv' := [(2, .int x5), (7, .int r_6), (6, .int r_4), (0, .ref (ad 1)), (1, .int x1), (3, .int x3), (4, .int x4), (5, .int x5)]) hx hb dX2_mostLike_64 rfl hl (by decide) rfl (fun ls hl => ?_)
          refine lv_iload hx hb dX2_mostLike_65 (lv_at hl 2 rfl) ?_
          refine lv_istore_n (lv' := [(3, .int r_4), (2, .int x5), (7, .int r_6), (6, .int r_4), (0, .ref (ad 1)), (1, .int x1), (4, .int x4), (5, .int x5)]) hx hb dX2_mostLike_67 rfl hl (by decide) rfl (fun ls hl => ?_)
          refine lv_iload hx hb dX2_mostLike_68 (lv_at hl 2 rfl) ?_
          refine lv_istore (lv' := [(4, .int r_6), (3, .int r_4), (2, .int x5), (7, .int r_6), (6, .int r_4), (0, .ref (ad 1)), (1, .int x1), (5, .int x5)]) hx hb dX2_mostLike_70 hl (by decide) rfl (fun ls hl => ?_)
          refine lv_iinc (v := x5 + 1) (lv' := [(5, .int (x5 + 1)), (4, .int r_6), (3, .int r_4), (2, .int x5), (7, .int r_6), (6, .int r_4), (0, .ref (ad 1)), (1, .int x1)]) hx hb dX2_mostLike_72 hl (k := 7) rfl rfl (by decide) rfl (fun ls hl => ?_)
          refine lv_goto (tgt := 10) hx hb dX2_mostLike_75 (by decide) ?_
          exact ih _ _ _ _ _ _ _ h hI (lv_sub hl [6, 7, 3, 2, 1, 0] rfl)
        · replace h := (if_neg c_7).symm.trans h
          refine lv_iload hx hb dX2_mostLike_50 (lv_at hl 1 rfl) ?_
          refine lv_iload hx hb dX2_mostLike_52 (lv_at hl 6 rfl) ?_
          refine lv_imul hx hb dX2_mostLike_54 ?_
          refine lv_iload_n hx hb dX2_mostLike_55 rfl (lv_at hl 5 rfl) ?_
          refine lv_iload hx hb dX2_mostLike_56 (lv_at hl 0 rfl) ?_
          refine lv_imul hx hb dX2_mostLike_58 ?_
          refine lv_icmp_le (tgt := 72) hx hb dX2_mostLike_59 (by decide) (fun c_8 => ?_) (fun c_8 => ?_)
          · replace h := (if_pos c_8).symm.trans h
            refine lv_iinc (v := x5 + 1) (lv' := [(5, .int (x5 + 1)), (7, .int r_6), (6, .int r_4), (0, .ref (ad 1)), (1, .int x1), (2, .int x2), (3, .int x3), (4, .int x4)]) hx hb dX2_mostLike_72 hl (k := 7) rfl rfl (by decide) rfl (fun ls hl => ?_)
            refine lv_goto (tgt := 10) hx hb dX2_mostLike_75 (by decide) ?_
            exact ih _ _ _ _ _ _ _ h hI (lv_sub hl [3, 4, 5, 6, 7, 0] rfl)
          · replace h := (if_neg c_8).symm.trans h
            refine lv_iload hx hb dX2_mostLike_62 (lv_at hl 7 rfl) ?_
            refine lv_istore_n (lv' := [(2, .int x5), (7, .int r_6), (6, .int r_4), (0, .ref (ad 1)), (1, .int x1), (3, .int x3), (4, .int x4), (5, .int x5)]) hx hb dX2_mostLike_64 rfl hl (by decide) rfl (fun ls hl => ?_)
            refine lv_iload hx hb dX2_mostLike_65 (lv_at hl 2 rfl) ?_
            refine lv_istore_n (lv' := [(3, .int r_4), (2, .int x5), (7, .int r_6), (6, .int r_4), (0, .ref (ad 1)), (1, .int x1), (4, .int x4), (5, .int x5)]) hx hb dX2_mostLike_67 rfl hl (by decide) rfl (fun ls hl => ?_)
            refine lv_iload hx hb dX2_mostLike_68 (lv_at hl 2 rfl) ?_
            refine lv_istore (lv' := [(4, .int r_6), (3, .int r_4), (2, .int x5), (7, .int r_6), (6, .int r_4), (0, .ref (ad 1)), (1, .int x1), (5, .int x5)]) hx hb dX2_mostLike_70 hl (by decide) rfl (fun ls hl => ?_)
            refine lv_iinc (v := x5 + 1) (lv' := [(5, .int (x5 + 1)), (4, .int r_6), (3, .int r_4), (2, .int x5), (7, .int r_6), (6, .int r_4), (0, .ref (ad 1)), (1, .int x1)]) hx hb dX2_mostLike_72 hl (k := 7) rfl rfl (by decide) rfl (fun ls hl => ?_)
            refine lv_goto (tgt := 10) hx hb dX2_mostLike_75 (by decide) ?_
            exact ih _ _ _ _ _ _ _ h hI (lv_sub hl [6, 7, 3, 2, 1, 0] rfl)
      · replace h := (if_pos c_2).symm.trans h
        refine lv_goto (tgt := 72) hx hb dX2_mostLike_25 (by decide) ?_
        refine lv_iinc (v := x5 + 1) (lv' := [(5, .int (x5 + 1)), (0, .ref (ad 1)), (1, .int x1), (2, .int x2), (3, .int x3), (4, .int x4)]) hx hb dX2_mostLike_72 hl (k := 5) rfl rfl (by decide) rfl (fun ls hl => ?_)
        refine lv_goto (tgt := 10) hx hb dX2_mostLike_75 (by decide) ?_
        exact ih _ _ _ _ _ _ _ h hI (lv_sub hl [1, 2, 3, 4, 5, 0] rfl)
set_option maxHeartbeats 4000000 in
set_option maxRecDepth 100000 in
theorem c_X2_mostLike (l : Launch) (g : GP) (Y : va_W) (ad : Nat → Nat) (N : Nat) (x1 : Int32)  (st : St) {r : Int32}  (h : f_X2_mostLike N st x1 = some r) : MetI l yX2_mostLike wsX2_mostLike rmX2_mostLike g (wCX g Y ad) [.ref (ad 1), .int x1] st (r) st := by
  refine metI_of (cc := cX2_mostLike) (nL := 8) (ty := .int) (by decide) rfl (Nat.le_of_ble_eq_true rfl) rfl ?_
  intro p e s m below meth c Q A C hret H locs hI ls hl
  have C : Cx p s m _ c cX2_mostLike 8 wsX2_mostLike RX2 g A := C
  obtain ⟨hx, hb, hml, hown, hts⟩ := id C.1
  have hl : lv_has ls 8 [(0, .ref (ad 1)), (1, .int x1)] := hl
  rw [f_X2_mostLike] at h
  refine lv_iconst (v := (-1)) hx hb dX2_mostLike_0 (by decide) ?_
  refine lv_istore_n (lv' := [(2, .int (-1 : Int32)), (0, .ref (ad 1)), (1, .int x1)]) hx hb dX2_mostLike_1 rfl hl (by decide) rfl (fun ls hl => ?_)
  refine lv_iconst (v := 0) hx hb dX2_mostLike_2 (by decide) ?_
  refine lv_istore_n (lv' := [(3, .int 0), (2, .int (-1 : Int32)), (0, .ref (ad 1)), (1, .int x1)]) hx hb dX2_mostLike_3 rfl hl (by decide) rfl (fun ls hl => ?_)
  refine lv_iconst (v := 1) hx hb dX2_mostLike_4 (by decide) ?_
  refine lv_istore (lv' := [(4, .int 1), (3, .int 0), (2, .int (-1 : Int32)), (0, .ref (ad 1)), (1, .int x1)]) hx hb dX2_mostLike_5 hl (by decide) rfl (fun ls hl => ?_)
  refine lv_iconst (v := 0) hx hb dX2_mostLike_7 (by decide) ?_
  refine lv_istore (lv' := [(5, .int 0), (4, .int 1), (3, .int 0), (2, .int (-1 : Int32)), (0, .ref (ad 1)), (1, .int x1)]) hx hb dX2_mostLike_8 hl (by decide) rfl (fun ls hl => ?_)
  refine wl_X2_mostLike_L10 C st hret N x1 _ (fun a_9 a_10 a_11 a_12 H locs ls h hI hl => ?_) N (-1 : Int32) 0 1 0 H locs ls h hI (lv_sub hl [4, 5, 3, 2, 1, 0] rfl)
  refine lv_iload_n hx hb dX2_mostLike_78 rfl (lv_at hl 2 rfl) ?_
  obtain rfl := ret1 h
  exact hret H locs _ ls hI dX2_mostLike_79
theorem hv_X2_mostLike : yX2_mostLike.cls = RX2 ∧ yX2_mostLike.cls ≠ "java/lang/invoke/MethodHandle" ∧ yX2_mostLike.cls ≠ "java/lang/invoke/VarHandle" ∧ (parseMethodDescriptor yX2_mostLike.desc).map (fun d => d.parameters.length) = some 1 := by decide +kernel
/-! X2_weightsFor -/
def rmX2_weightsFor : Room := { frames := 0, cells := 0, slots := 0, locals := 0 }
def f_X2_weightsFor (st : St) (x1 : Bool) : Nat := if b2i x1 = 0 then 4 else 3
set_option maxHeartbeats 4000000 in
set_option maxRecDepth 100000 in
theorem c_X2_weightsFor (l : Launch) (g : GP) (Y : va_W) (ad : Nat → Nat) (x1 : Bool)  (st : St) : MetR l yX2_weightsFor wsX2_weightsFor rmX2_weightsFor g (wCX g Y ad) [.ref (ad 1), .int (b2i x1)] st (ad (f_X2_weightsFor st x1)) st := by
  refine metR_of (cc := cX2_weightsFor) (nL := 2) (ty := .int) (by decide) rfl (Nat.le_of_ble_eq_true rfl) ?_
  intro p e s m below meth c Q A C hret H locs hI ls hl
  have C : Cx p s m _ c cX2_weightsFor 2 wsX2_weightsFor RX2 g A := C
  obtain ⟨hx, hb, hml, hown, hts⟩ := id C.1
  have hl : lv_has ls 2 [(0, .ref (ad 1)), (1, .int (b2i x1))] := hl
  have hinRX2 : ∀ w ∈ u_ws RX2 TX2 7, w ∈ wsX2_weightsFor := by decide +kernel
  have lk21 := hts (.fieldLink RX2 21 "GraveRows$Ground" "weightsOfWoman" "[I") (by decide +kernel)
  have lk17 := hts (.fieldLink RX2 17 "GraveRows$Ground" "weightsOfMan" "[I") (by decide +kernel)
  generalize hgen : f_X2_weightsFor st x1 = r at hret
  have h := hgen
  rw [f_X2_weightsFor] at h
  refine lv_iload_n hx hb dX2_weightsFor_0 rfl (lv_at hl 1 rfl) ?_
  refine lv_if_eq (tgt := 11) hx hb dX2_weightsFor_1 (by decide) (fun c_1 => ?_) (fun c_1 => ?_)
  · replace h := (if_pos c_1).symm.trans h
    refine lv_aload_n hx hb dX2_weightsFor_11 rfl (lv_at hl 0 rfl) ?_
    refine w_get (v := .ref (ad 4)) C hinRX2 hI 1 at_G0 rfl 2 (by decide) lk21 rfl rfl dX2_weightsFor_12 ?_
    subst h
    exact hret H locs _ ls hI dX2_weightsFor_15
  · replace h := (if_neg c_1).symm.trans h
    refine lv_aload_n hx hb dX2_weightsFor_4 rfl (lv_at hl 0 rfl) ?_
    refine w_get (v := .ref (ad 3)) C hinRX2 hI 1 at_G0 rfl 1 (by decide) lk17 rfl rfl dX2_weightsFor_5 ?_
    refine lv_goto (tgt := 15) hx hb dX2_weightsFor_8 (by decide) ?_
    subst h
    exact hret H locs _ ls hI dX2_weightsFor_15
theorem fq_X2_weightsFor (st : St) (x1 : Bool) : f_X2_weightsFor st x1 = 3 ∨ f_X2_weightsFor st x1 = 4 := by
  unfold f_X2_weightsFor
  split <;> simp
theorem hv_X2_weightsFor : yX2_weightsFor.cls = RX2 ∧ yX2_weightsFor.cls ≠ "java/lang/invoke/MethodHandle" ∧ yX2_weightsFor.cls ≠ "java/lang/invoke/VarHandle" ∧ (parseMethodDescriptor yX2_weightsFor.desc).map (fun d => d.parameters.length) = some 1 := by decide +kernel
/-! X2_productOfMarks -/
def rmX2_productOfMarks : Room := { frames := 1, cells := 0, slots := 0, locals := 21 }
def f_X2_productOfMarks_L20 (N : Nat) (x2 : Bool) (y3 : Nat) (y4 : Nat) (st : St) (k : Int64 → Int32 → Option (Int64)) : Nat → Int64 → Int32 → Option (Int64)
  | 0, _, _ => none
  | n + 1, x5, x7 => if 6 ≤ x7 then k x5 x7 else bnd (f_X5_isIn (st 7 y3) x7) fun r_5 => if b2i r_5 = 0 then f_X2_productOfMarks_L20 N x2 y3 y4 st k n x5 (x7 + 1) else bnd (f_X5_isIn (st 8 y3) x7) fun r_7 => if b2i r_7 = b2i x2 then ck 6 x7 fun j_13 => bnd (x5 * ((st (y4 + 6) j_13).toInt64)) fun v_14 => f_X2_productOfMarks_L20 N x2 y3 y4 st k n v_14 (x7 + 1) else ck 6 x7 fun j_10 => bnd (x5 * ((21 - (st (y4 + 6) j_10)).toInt64)) fun v_11 => f_X2_productOfMarks_L20 N x2 y3 y4 st k n v_11 (x7 + 1)
def f_X2_productOfMarks (N : Nat) (st : St) (x1 : Int32) (x2 : Bool) : Option (Int64) := ck 10 x1 fun j_1 => bnd (f_X2_weightsFor st x2) fun r_2 => f_X2_productOfMarks_L20 N x2 j_1 r_2 st (fun a_15 a_16 => some a_15) N 1 0
set_option maxHeartbeats 4000000 in
set_option maxRecDepth 100000 in
theorem wl_X2_productOfMarks_L20 {p : Program} {l : Launch} {e : Env} {s : State} {m : MethodId} {args : Array Value} {below : List Frame} {meth : Method} {c : Code} {Q : State → Prop} {A : Nat → Prop} {g : GP} {Y : va_W} {ad : Nat → Nat} {r : Int64}  (C : Cx p s m args c cX2_productOfMarks 9 wsX2_productOfMarks RX2 g A) (st : St) (hret : RetL p l e rmX2_productOfMarks s m args below meth c Q cX2_productOfMarks g A (wCX g Y ad st) (r)) (N : Nat) (x2 : Bool) (y3 : Nat) (y4 : Nat) (hy3 : y3 < 10) (hy4 : y4 = 3 ∨ y4 = 4) (k : Int64 → Int32 → Option (Int64)) (hk : ∀ (x5 : Int64) (x7 : Int32) (H : Heap) (locs : List Loc) (ls : Array Slot), k x5 x7 = some r → IW g A s.heap (wCX g Y ad st) H locs → lv_has ls 9 [(2, .int (b2i x2)), (3, .ref (ad (7 + y3))), (4, .ref (ad y4)), (5, .long x5), (7, .int x7)] → W p l e rmX2_productOfMarks s m args below meth c H locs 0 0 Q (F0 m 93 ls [])) : ∀ (n : Nat) (x5 : Int64) (x7 : Int32) (H : Heap) (locs : List Loc) (ls : Array Slot), f_X2_productOfMarks_L20 N x2 y3 y4 st k n x5 x7 = some r → IW g A s.heap (wCX g Y ad st) H locs → lv_has ls 9 [(2, .int (b2i x2)), (3, .ref (ad (7 + y3))), (4, .ref (ad y4)), (5, .long x5), (7, .int x7)] → W p l e rmX2_productOfMarks s m args below meth c H locs 0 0 Q (F0 m 20 ls []) := by
  obtain ⟨hx, hb, hml, hown, hts⟩ := id C.1
  have hinRX1 : ∀ w ∈ u_ws RX1 TX1 9, w ∈ wsX2_productOfMarks := by decide +kernel
  have lk126 := hts (.fieldLink RX2 126 "GraveRows$Grave" "marksTold" "I") (by decide +kernel)
  have iniRX5 := hts (.initialized RX5) (by decide +kernel)
  have staX5_isIn := hts (.static yX5_isIn) (by decide +kernel)
  have lk129 := hts (.fieldLink RX2 129 "GraveRows$Grave" "marksOfMan" "I") (by decide +kernel)
  intro n
  induction n with
  | zero =>
    intro x5 x7 H locs ls h hI hl
    rw [f_X2_productOfMarks_L20] at h
    cases h
  | succ n ih =>
    intro x5 x7 H locs ls h hI hl
    rw [f_X2_productOfMarks_L20] at h
    refine lv_iload hx hb dX2_productOfMarks_20 (lv_at hl 4 rfl) ?_
    refine lv_bipush (v := 6) hx hb dX2_productOfMarks_22 (by decide) ?_
    refine lv_icmp_ge (tgt := 93) hx hb dX2_productOfMarks_24 (by decide) (fun c_4 => ?_) (fun c_4 => ?_)
    · replace h := (if_pos c_4).symm.trans h
      exact hk _ _ _ _ _ h hI (lv_sub hl [0, 1, 2, 3, 4] rfl)
    · replace h := (if_neg c_4).symm.trans h
      refine lv_aload_n hx hb dX2_productOfMarks_27 rfl (lv_at hl 1 rfl) ?_
      refine w_get (v := .int (st 7 y3)) C hinRX1 hI (7 + y3) (at_V0 hy3) rfl 7 (by decide) lk126 rfl rfl dX2_productOfMarks_28 ?_
      refine lv_iload hx hb dX2_productOfMarks_31 (lv_at hl 4 rfl) ?_
      refine callN_S (rest := []) C.1 (c_X5_isIn l (st 7 y3) x7) ⟨va_cnB 2 hts gX2_productOfMarks_X5_isIn_n61 rfl rfl rfl C.2.2.1 iniRX5 hd_X5_isIn ⟨Nat.le_of_ble_eq_true rfl, Nat.le_of_ble_eq_true rfl⟩, staX5_isIn, trivial⟩ rfl hl.1 rfl (Nat.le_of_ble_eq_true rfl) dX2_productOfMarks_33 ?_
      refine gen_b h (fun r_5 h => ?_)
      refine lv_if_eq (tgt := 87) hx hb dX2_productOfMarks_36 (by decide) (fun c_6 => ?_) (fun c_6 => ?_)
      · replace h := (if_pos c_6).symm.trans h
        refine lv_iinc (v := x7 + 1) (lv' := [(7, .int (x7 + 1)), (2, .int (b2i x2)), (3, .ref (ad (7 + y3))), (4, .ref (ad y4)), (5, .long x5)]) hx hb dX2_productOfMarks_87 hl (k := 4) rfl rfl (by decide) rfl (fun ls hl => ?_)
        refine lv_goto (tgt := 20) hx hb dX2_productOfMarks_90 (by decide) ?_
        exact ih _ _ _ _ _ h hI (lv_sub hl [1, 2, 3, 4, 0] rfl)
      · replace h := (if_neg c_6).symm.trans h
        refine lv_aload_n hx hb dX2_productOfMarks_39 rfl (lv_at hl 1 rfl) ?_
        refine w_get (v := .int (st 8 y3)) C hinRX1 hI (7 + y3) (at_V0 hy3) rfl 8 (by decide) lk129 rfl rfl dX2_productOfMarks_40 ?_
        refine lv_iload hx hb dX2_productOfMarks_43 (lv_at hl 4 rfl) ?_
        refine callN_S (rest := []) C.1 (c_X5_isIn l (st 8 y3) x7) ⟨va_cnB 2 hts gX2_productOfMarks_X5_isIn_n61 rfl rfl rfl C.2.2.1 iniRX5 hd_X5_isIn ⟨Nat.le_of_ble_eq_true rfl, Nat.le_of_ble_eq_true rfl⟩, staX5_isIn, trivial⟩ rfl hl.1 rfl (Nat.le_of_ble_eq_true rfl) dX2_productOfMarks_45 ?_
        refine gen_b h (fun r_7 h => ?_)
        refine lv_iload_n hx hb dX2_productOfMarks_48 rfl (lv_at hl 0 rfl) ?_
        refine lv_icmp_ne (tgt := 56) hx hb dX2_productOfMarks_49 (by decide) (fun c_8 => ?_) (fun c_8 => ?_)
        · replace h := (if_neg c_8).symm.trans h
          refine lv_iconst (v := 0) hx hb dX2_productOfMarks_56 (by decide) ?_
          refine lv_istore (lv' := [(8, .int 0), (2, .int (b2i x2)), (3, .ref (ad (7 + y3))), (4, .ref (ad y4)), (5, .long x5), (7, .int x7)]) hx hb dX2_productOfMarks_57 hl (by decide) rfl (fun ls hl => ?_)
          refine lv_lload hx hb dX2_productOfMarks_59 (lv_at hl 4 rfl) ?_
          refine lv_iload hx hb dX2_productOfMarks_61 (lv_at hl 0 rfl) ?_
          refine lv_if_eq (tgt := 75) hx hb dX2_productOfMarks_63 (by decide) (fun c_9 => ?_) (fun c_9 => absurd (by decide) c_9)
          refine lv_bipush (v := 21) hx hb dX2_productOfMarks_75 (by decide) ?_
          refine lv_aload hx hb dX2_productOfMarks_77 (lv_at hl 3 rfl) ?_
          refine lv_iload hx hb dX2_productOfMarks_79 (lv_at hl 5 rfl) ?_
          refine w_ld C hI y4 (ar_W hy4) h dX2_productOfMarks_81 (fun j_10 hj_10 h => ?_)
          refine lv_isub hx hb dX2_productOfMarks_82 ?_
          refine lv_i2l (v := (21 - (st (y4 + 6) j_10)).toInt64) hx hb dX2_productOfMarks_83 rfl ?_
          refine lv_lmul hx hb dX2_productOfMarks_84 ?_
          refine gen_l h (fun v_11 h => ?_)
          refine lv_lstore (lv' := [(5, .long v_11), (8, .int 0), (2, .int (b2i x2)), (3, .ref (ad (7 + y3))), (4, .ref (ad y4)), (7, .int x7)]) hx hb dX2_productOfMarks_85 hl (by decide) rfl (fun ls hl => ?_)
          refine lv_iinc (v := x7 + 1) (lv' := [(7, .int (x7 + 1)), (5, .long v_11), (8, .int 0), (2, .int (b2i x2)), (3, .ref (ad (7 + y3))), (4, .ref (ad y4))]) hx hb dX2_productOfMarks_87 hl (k := 5) rfl rfl (by decide) rfl (fun ls hl => ?_)
          refine lv_goto (tgt := 20) hx hb dX2_productOfMarks_90 (by decide) ?_
          exact ih _ _ _ _ _ h hI (lv_sub hl [3, 4, 5, 1, 0] rfl)
        · replace h := (if_pos c_8).symm.trans h
          refine lv_iconst (v := 1) hx hb dX2_productOfMarks_52 (by decide) ?_
          refine lv_goto (tgt := 57) hx hb dX2_productOfMarks_53 (by decide) ?_
          refine lv_istore (lv' := [(8, .int 1), (2, .int (b2i x2)), (3, .ref (ad (7 + y3))), (4, .ref (ad y4)), (5, .long x5), (7, .int x7)]) hx hb dX2_productOfMarks_57 hl (by decide) rfl (fun ls hl => ?_)
          refine lv_lload hx hb dX2_productOfMarks_59 (lv_at hl 4 rfl) ?_
          refine lv_iload hx hb dX2_productOfMarks_61 (lv_at hl 0 rfl) ?_
          refine lv_if_eq (tgt := 75) hx hb dX2_productOfMarks_63 (by decide) (fun c_12 => absurd c_12 (by decide)) (fun c_12 => ?_)
          refine lv_aload hx hb dX2_productOfMarks_66 (lv_at hl 3 rfl) ?_
          refine lv_iload hx hb dX2_productOfMarks_68 (lv_at hl 5 rfl) ?_
          refine w_ld C hI y4 (ar_W hy4) h dX2_productOfMarks_70 (fun j_13 hj_13 h => ?_)
          refine lv_i2l (v := (st (y4 + 6) j_13).toInt64) hx hb dX2_productOfMarks_71 rfl ?_
          refine lv_goto (tgt := 84) hx hb dX2_productOfMarks_72 (by decide) ?_
          refine lv_lmul hx hb dX2_productOfMarks_84 ?_
          refine gen_l h (fun v_14 h => ?_)
          refine lv_lstore (lv' := [(5, .long v_14), (8, .int 1), (2, .int (b2i x2)), (3, .ref (ad (7 + y3))), (4, .ref (ad y4)), (7, .int x7)]) hx hb dX2_productOfMarks_85 hl (by decide) rfl (fun ls hl => ?_)
          refine lv_iinc (v := x7 + 1) (lv' := [(7, .int (x7 + 1)), (5, .long v_14), (8, .int 1), (2, .int (b2i x2)), (3, .ref (ad (7 + y3))), (4, .ref (ad y4))]) hx hb dX2_productOfMarks_87 hl (k := 5) rfl rfl (by decide) rfl (fun ls hl => ?_)
          refine lv_goto (tgt := 20) hx hb dX2_productOfMarks_90 (by decide) ?_
          exact ih _ _ _ _ _ h hI (lv_sub hl [3, 4, 5, 1, 0] rfl)
set_option maxHeartbeats 4000000 in
set_option maxRecDepth 100000 in
theorem c_X2_productOfMarks (l : Launch) (g : GP) (Y : va_W) (ad : Nat → Nat) (N : Nat) (x1 : Int32) (x2 : Bool)  (st : St) {r : Int64}  (h : f_X2_productOfMarks N st x1 x2 = some r) : MetL l yX2_productOfMarks wsX2_productOfMarks rmX2_productOfMarks g (wCX g Y ad) [.ref (ad 1), .int x1, .int (b2i x2)] st (r) st := by
  refine metL_of (cc := cX2_productOfMarks) (nL := 9) (by decide) rfl (Nat.le_of_ble_eq_true rfl) ?_
  intro p e s m below meth c Q A C hret H locs hI ls hl
  have C : Cx p s m _ c cX2_productOfMarks 9 wsX2_productOfMarks RX2 g A := C
  obtain ⟨hx, hb, hml, hown, hts⟩ := id C.1
  have hl : lv_has ls 9 [(0, .ref (ad 1)), (1, .int x1), (2, .int (b2i x2))] := hl
  have hinRX2 : ∀ w ∈ u_ws RX2 TX2 7, w ∈ wsX2_productOfMarks := by decide +kernel
  have lk11 := hts (.fieldLink RX2 11 "GraveRows$Ground" "graves" "[LGraveRows$Grave;") (by decide +kernel)
  rw [f_X2_productOfMarks] at h
  refine lv_aload_n hx hb dX2_productOfMarks_0 rfl (lv_at hl 0 rfl) ?_
  refine w_get (v := .ref (ad 2)) C hinRX2 hI 1 at_G0 rfl 0 (by decide) lk11 rfl rfl dX2_productOfMarks_1 ?_
  refine lv_iload_n hx hb dX2_productOfMarks_4 rfl (lv_at hl 1 rfl) ?_
  refine w_ald (t0 := 2) (fa := fun j => ad (7 + j)) C hI 2 ra_2 rfl (fun _ => rfl) h dX2_productOfMarks_5 (fun j_1 hj_1 h => ?_)
  refine lv_astore_n (lv' := [(3, .ref (ad (7 + j_1))), (0, .ref (ad 1)), (1, .int x1), (2, .int (b2i x2))]) hx hb dX2_productOfMarks_6 rfl hl (by decide) rfl (fun ls hl => ?_)
  refine lv_aload_n hx hb dX2_productOfMarks_7 rfl (lv_at hl 1 rfl) ?_
  refine lv_iload_n hx hb dX2_productOfMarks_8 rfl (lv_at hl 3 rfl) ?_
  refine callV_R (rest := []) C hI (c_X2_weightsFor l g Y ad x2 st) (cwV 1 hts gX2_productOfMarks_X2_weightsFor rfl rfl rfl hv_X2_weightsFor ⟨Nat.le_of_ble_eq_true rfl, Nat.le_of_ble_eq_true rfl⟩) (w_recv C hI 1 at_G0 rfl) rfl hl.1 rfl (Nat.le_of_ble_eq_true rfl) dX2_productOfMarks_9 (fun H locs hI => ?_)
  have hq_3 := fq_X2_weightsFor st x2
  refine gen_q (q := fun y => y = 3 ∨ y = 4) (fa := fun y => ad y) h hq_3 (fun r_2 hq_3 h => ?_)
  refine lv_astore (lv' := [(4, .ref (ad r_2)), (3, .ref (ad (7 + j_1))), (0, .ref (ad 1)), (1, .int x1), (2, .int (b2i x2))]) hx hb dX2_productOfMarks_12 hl (by decide) rfl (fun ls hl => ?_)
  refine lv_lconst (v := 1) hx hb dX2_productOfMarks_14 (by decide) ?_
  refine lv_lstore (lv' := [(5, .long 1), (4, .ref (ad r_2)), (3, .ref (ad (7 + j_1))), (0, .ref (ad 1)), (1, .int x1), (2, .int (b2i x2))]) hx hb dX2_productOfMarks_15 hl (by decide) rfl (fun ls hl => ?_)
  refine lv_iconst (v := 0) hx hb dX2_productOfMarks_17 (by decide) ?_
  refine lv_istore (lv' := [(7, .int 0), (5, .long 1), (4, .ref (ad r_2)), (3, .ref (ad (7 + j_1))), (0, .ref (ad 1)), (1, .int x1), (2, .int (b2i x2))]) hx hb dX2_productOfMarks_18 hl (by decide) rfl (fun ls hl => ?_)
  refine wl_X2_productOfMarks_L20 C st hret N x2 j_1 r_2 hj_1 hq_3 _ (fun a_15 a_16 H locs ls h hI hl => ?_) N 1 0 H locs ls h hI (lv_sub hl [6, 3, 2, 1, 0] rfl)
  refine lv_lload hx hb dX2_productOfMarks_93 (lv_at hl 3 rfl) ?_
  obtain rfl := ret1 h
  exact hret H locs _ ls hI dX2_productOfMarks_95
theorem hv_X2_productOfMarks : yX2_productOfMarks.cls = RX2 ∧ yX2_productOfMarks.cls ≠ "java/lang/invoke/MethodHandle" ∧ yX2_productOfMarks.cls ≠ "java/lang/invoke/VarHandle" ∧ (parseMethodDescriptor yX2_productOfMarks.desc).map (fun d => d.parameters.length) = some 2 := by decide +kernel
/-! X2_whose -/
def rmX2_whose : Room := { frames := 2, cells := 0, slots := 0, locals := 49 }
def f_X2_whose (N : Nat) (st : St) (x1 : Int32) : Option (Int32) := ck 10 x1 fun j_1 => bd1 (f_X1_isOfKind N st j_1 2) fun r_3 => if b2i r_3 = 0 then bd1 (f_X2_productOfMarks N st x1 true) fun r_6 => bd1 (f_X2_productOfMarks N st x1 false) fun r_8 => if lg_cmp r_6 r_8 = 0 then some 2 else if lg_cmp r_6 r_8 ≤ 0 then some 1 else some 0 else some 2
set_option maxHeartbeats 4000000 in
set_option maxRecDepth 100000 in
theorem c_X2_whose (l : Launch) (g : GP) (Y : va_W) (ad : Nat → Nat) (N : Nat) (x1 : Int32)  (st : St) {r : Int32}  (h : f_X2_whose N st x1 = some r) : MetI l yX2_whose wsX2_whose rmX2_whose g (wCX g Y ad) [.ref (ad 1), .int x1] st (r) st := by
  refine metI_of (cc := cX2_whose) (nL := 6) (ty := .int) (by decide) rfl (Nat.le_of_ble_eq_true rfl) rfl ?_
  intro p e s m below meth c Q A C hret H locs hI ls hl
  have C : Cx p s m _ c cX2_whose 6 wsX2_whose RX2 g A := C
  obtain ⟨hx, hb, hml, hown, hts⟩ := id C.1
  have hl : lv_has ls 6 [(0, .ref (ad 1)), (1, .int x1)] := hl
  have hinRX2 : ∀ w ∈ u_ws RX2 TX2 7, w ∈ wsX2_whose := by decide +kernel
  have lk11 := hts (.fieldLink RX2 11 "GraveRows$Ground" "graves" "[LGraveRows$Grave;") (by decide +kernel)
  rw [f_X2_whose] at h
  refine lv_aload_n hx hb dX2_whose_0 rfl (lv_at hl 0 rfl) ?_
  refine w_get (v := .ref (ad 2)) C hinRX2 hI 1 at_G0 rfl 0 (by decide) lk11 rfl rfl dX2_whose_1 ?_
  refine lv_iload_n hx hb dX2_whose_4 rfl (lv_at hl 1 rfl) ?_
  refine w_ald (t0 := 2) (fa := fun j => ad (7 + j)) C hI 2 ra_2 rfl (fun _ => rfl) h dX2_whose_5 (fun j_1 hj_1 h => ?_)
  refine lv_iconst (v := 2) hx hb dX2_whose_6 (by decide) ?_
  obtain ⟨r_3, hr_2, h⟩ := bd1_some h
  refine callV_I (rest := []) C hI (c_X1_isOfKind l g Y ad N j_1 2 hj_1 st hr_2) (cwV 1 hts gX2_whose_X1_isOfKind rfl rfl rfl hv_X1_isOfKind ⟨Nat.le_of_ble_eq_true rfl, Nat.le_of_ble_eq_true rfl⟩) (w_recv C hI (7 + j_1) (at_V0 hj_1) rfl) rfl hl.1 rfl (Nat.le_of_ble_eq_true rfl) dX2_whose_7 (fun H locs hI => ?_)
  refine lv_if_eq (tgt := 15) hx hb dX2_whose_10 (by decide) (fun c_4 => ?_) (fun c_4 => ?_)
  · replace h := (if_pos c_4).symm.trans h
    refine lv_aload_n hx hb dX2_whose_15 rfl (lv_at hl 0 rfl) ?_
    refine lv_iload_n hx hb dX2_whose_16 rfl (lv_at hl 1 rfl) ?_
    refine lv_iconst (v := 1) hx hb dX2_whose_17 (by decide) ?_
    obtain ⟨r_6, hr_5, h⟩ := bd1_some h
    refine callV_L (rest := []) C hI (c_X2_productOfMarks l g Y ad N x1 true st hr_5) (cwV 2 hts gX2_whose_X2_productOfMarks rfl rfl rfl hv_X2_productOfMarks ⟨Nat.le_of_ble_eq_true rfl, Nat.le_of_ble_eq_true rfl⟩) (w_recv C hI 1 at_G0 rfl) rfl hl.1 rfl (Nat.le_of_ble_eq_true rfl) dX2_whose_18 (fun H locs hI => ?_)
    refine lv_lstore_n (lv' := [(2, .long r_6), (0, .ref (ad 1)), (1, .int x1)]) hx hb dX2_whose_21 rfl hl (by decide) rfl (fun ls hl => ?_)
    refine lv_aload_n hx hb dX2_whose_22 rfl (lv_at hl 1 rfl) ?_
    refine lv_iload_n hx hb dX2_whose_23 rfl (lv_at hl 2 rfl) ?_
    refine lv_iconst (v := 0) hx hb dX2_whose_24 (by decide) ?_
    obtain ⟨r_8, hr_7, h⟩ := bd1_some h
    refine callV_L (rest := []) C hI (c_X2_productOfMarks l g Y ad N x1 false st hr_7) (cwV 2 hts gX2_whose_X2_productOfMarks rfl rfl rfl hv_X2_productOfMarks ⟨Nat.le_of_ble_eq_true rfl, Nat.le_of_ble_eq_true rfl⟩) (w_recv C hI 1 at_G0 rfl) rfl hl.1 rfl (Nat.le_of_ble_eq_true rfl) dX2_whose_25 (fun H locs hI => ?_)
    refine lv_lstore (lv' := [(4, .long r_8), (2, .long r_6), (0, .ref (ad 1)), (1, .int x1)]) hx hb dX2_whose_28 hl (by decide) rfl (fun ls hl => ?_)
    refine lv_lload_n hx hb dX2_whose_30 rfl (lv_at hl 1 rfl) ?_
    refine lv_lload hx hb dX2_whose_31 (lv_at hl 0 rfl) ?_
    refine W.lcmp hx hb dX2_whose_33 ?_
    refine lv_if_ne (tgt := 39) hx hb dX2_whose_34 (by decide) (fun c_9 => ?_) (fun c_9 => ?_)
    · replace h := (if_neg c_9).symm.trans h
      refine lv_lload_n hx hb dX2_whose_39 rfl (lv_at hl 1 rfl) ?_
      refine lv_lload hx hb dX2_whose_40 (lv_at hl 0 rfl) ?_
      refine W.lcmp hx hb dX2_whose_42 ?_
      refine lv_if_le (tgt := 50) hx hb dX2_whose_43 (by decide) (fun c_10 => ?_) (fun c_10 => ?_)
      · replace h := (if_pos c_10).symm.trans h
        refine lv_iconst (v := 1) hx hb dX2_whose_50 (by decide) ?_
        obtain rfl := ret1 h
        exact hret H locs _ ls hI dX2_whose_51
      · replace h := (if_neg c_10).symm.trans h
        refine lv_iconst (v := 0) hx hb dX2_whose_46 (by decide) ?_
        refine lv_goto (tgt := 51) hx hb dX2_whose_47 (by decide) ?_
        obtain rfl := ret1 h
        exact hret H locs _ ls hI dX2_whose_51
    · replace h := (if_pos c_9).symm.trans h
      refine lv_iconst (v := 2) hx hb dX2_whose_37 (by decide) ?_
      obtain rfl := ret1 h
      exact hret H locs _ ls hI dX2_whose_38
  · replace h := (if_neg c_4).symm.trans h
    refine lv_iconst (v := 2) hx hb dX2_whose_13 (by decide) ?_
    obtain rfl := ret1 h
    exact hret H locs _ ls hI dX2_whose_14
theorem hv_X2_whose : yX2_whose.cls = RX2 ∧ yX2_whose.cls ≠ "java/lang/invoke/MethodHandle" ∧ yX2_whose.cls ≠ "java/lang/invoke/VarHandle" ∧ (parseMethodDescriptor yX2_whose.desc).map (fun d => d.parameters.length) = some 1 := by decide +kernel
