/-! X3_takeIn -/
def rmX3_takeIn : Room := { frames := 2, cells := 0, slots := 0, locals := 43 }
def f_X3_takeIn_L33 (N : Nat) (x2 : Int32) (k : Int32 → Int32 → St → Option (Bool × St)) : Nat → Int32 → Int32 → St → Option (Bool × St)
  | 0, _, _, _ => none
  | n + 1, x3, x4, st => if st 47 0 ≤ x4 then k x3 x4 st else ck 10 x4 fun j_4 => bnd ((st 3 j_4) &&& x2) fun v_5 => bd1 (f_X1_goodsSurelyLacked N st j_4) fun r_7 => bnd (r_7 &&& x2) fun v_8 => ck 8 x4 fun j_9 => if st 40 j_9 = v_5 then ck 8 x4 fun j_14 => if st 41 j_14 = v_8 then ck 8 x4 fun j_19 => if st 42 j_19 = st 6 j_4 then sto 8 st 40 x4 v_5 fun st_21 => sto 8 st_21 41 x4 v_8 fun st_22 => sto 8 st_22 42 x4 (st_22 6 j_4) fun st_23 => f_X3_takeIn_L33 N x2 k n x3 (x4 + 1) st_23 else sto 8 st 40 x4 v_5 fun st_24 => sto 8 st_24 41 x4 v_8 fun st_25 => sto 8 st_25 42 x4 (st_25 6 j_4) fun st_26 => f_X3_takeIn_L33 N x2 k n 1 (x4 + 1) st_26 else sto 8 st 40 x4 v_5 fun st_16 => sto 8 st_16 41 x4 v_8 fun st_17 => sto 8 st_17 42 x4 (st_17 6 j_4) fun st_18 => f_X3_takeIn_L33 N x2 k n 1 (x4 + 1) st_18 else sto 8 st 40 x4 v_5 fun st_11 => sto 8 st_11 41 x4 v_8 fun st_12 => sto 8 st_12 42 x4 (st_12 6 j_4) fun st_13 => f_X3_takeIn_L33 N x2 k n 1 (x4 + 1) st_13
def f_X3_takeIn (N : Nat) (st : St) (x2 : Int32) : Option (Bool × St) := if st 47 0 = st 13 0 then bnd (sU st 47 0 (imin (st 13 0) 8)) fun st_2 => f_X3_takeIn_L33 N x2 (fun a_27 a_28 st_29 => gz a_27 fun b_30 => some (b_30, st_29)) N 0 0 st_2 else bnd (sU st 47 0 (imin (st 13 0) 8)) fun st_32 => f_X3_takeIn_L33 N x2 (fun a_33 a_34 st_35 => gz a_33 fun b_36 => some (b_36, st_35)) N 1 0 st_32
set_option maxHeartbeats 4000000 in
set_option maxRecDepth 100000 in
theorem wl_X3_takeIn_L33 {p : Program} {l : Launch} {e : Env} {s : State} {m : MethodId} {args : Array Value} {below : List Frame} {meth : Method} {c : Code} {Q : State → Prop} {A : Nat → Prop} {g : GP} {Y : va_W} {ad : Nat → Nat} {r : Bool} {st' : St} (C : Cx p s m args c cX3_takeIn 8 wsX3_takeIn RX3 g A) (hret : RetI p l e rmX3_takeIn s m args below meth c Q cX3_takeIn g A (wCX g Y ad st') (b2i r)) (N : Nat) (x2 : Int32)  (k : Int32 → Int32 → St → Option (Bool × St)) (hk : ∀ (x3 : Int32) (x4 : Int32) (st : St) (H : Heap) (locs : List Loc) (ls : Array Slot), k x3 x4 st = some (r, st') → IW g A s.heap (wCX g Y ad st) H locs → lv_has ls 8 [(0, .ref (ad 42)), (1, .ref (ad 1)), (2, .int x2), (3, .int x3), (4, .int x4)] → W p l e rmX3_takeIn s m args below meth c H locs 0 0 Q (F0 m 146 ls [])) : ∀ (n : Nat) (x3 : Int32) (x4 : Int32) (st : St) (H : Heap) (locs : List Loc) (ls : Array Slot), f_X3_takeIn_L33 N x2 k n x3 x4 st = some (r, st') → IW g A s.heap (wCX g Y ad st) H locs → lv_has ls 8 [(0, .ref (ad 42)), (1, .ref (ad 1)), (2, .int x2), (3, .int x3), (4, .int x4)] → W p l e rmX3_takeIn s m args below meth c H locs 0 0 Q (F0 m 33 ls []) := by
  obtain ⟨hx, hb, hml, hown, hts⟩ := id C.1
  have hinRX3 : ∀ w ∈ u_ws RX3 TX3 8, w ∈ wsX3_takeIn := by decide +kernel
  have lk46 := hts (.fieldLink RX3 46 "GraveRows$RowSearch" "size" "I") (by decide +kernel)
  have hinRX2 : ∀ w ∈ u_ws RX2 TX2 7, w ∈ wsX3_takeIn := by decide +kernel
  have lk59 := hts (.fieldLink RX3 59 "GraveRows$Ground" "graves" "[LGraveRows$Grave;") (by decide +kernel)
  have hinRX1 : ∀ w ∈ u_ws RX1 TX1 9, w ∈ wsX3_takeIn := by decide +kernel
  have lk63 := hts (.fieldLink RX3 63 "GraveRows$Grave" "goods" "I") (by decide +kernel)
  have lk9 := hts (.fieldLink RX3 9 "GraveRows$RowSearch" "goods" "[I") (by decide +kernel)
  have lk15 := hts (.fieldLink RX3 15 "GraveRows$RowSearch" "lacked" "[I") (by decide +kernel)
  have lk18 := hts (.fieldLink RX3 18 "GraveRows$RowSearch" "cuts" "[I") (by decide +kernel)
  have lk71 := hts (.fieldLink RX3 71 "GraveRows$Grave" "cuts" "I") (by decide +kernel)
  intro n
  induction n with
  | zero =>
    intro x3 x4 st H locs ls h hI hl
    rw [f_X3_takeIn_L33] at h
    cases h
  | succ n ih =>
    intro x3 x4 st H locs ls h hI hl
    rw [f_X3_takeIn_L33] at h
    refine lv_iload hx hb dX3_takeIn_33 (lv_at hl 4 rfl) ?_
    refine lv_aload_n hx hb dX3_takeIn_35 rfl (lv_at hl 0 rfl) ?_
    refine w_get (v := .int (st 47 0)) C hinRX3 hI 42 at_R rfl 7 (by decide) lk46 rfl rfl dX3_takeIn_36 ?_
    refine lv_icmp_ge (tgt := 146) hx hb dX3_takeIn_39 (by decide) (fun c_3 => ?_) (fun c_3 => ?_)
    · replace h := (if_pos c_3).symm.trans h
      exact hk _ _ _ _ _ _ h hI (lv_sub hl [0, 1, 2, 3, 4] rfl)
    · replace h := (if_neg c_3).symm.trans h
      refine lv_aload_n hx hb dX3_takeIn_42 rfl (lv_at hl 1 rfl) ?_
      refine w_get (v := .ref (ad 2)) C hinRX2 hI 1 at_G0 rfl 0 (by decide) lk59 rfl rfl dX3_takeIn_43 ?_
      refine lv_iload hx hb dX3_takeIn_46 (lv_at hl 4 rfl) ?_
      refine w_ald (t0 := 2) (fa := fun j => ad (7 + j)) C hI 2 ra_2 rfl (fun _ => rfl) h dX3_takeIn_48 (fun j_4 hj_4 h => ?_)
      refine lv_astore (lv' := [(5, .ref (ad (7 + j_4))), (0, .ref (ad 42)), (1, .ref (ad 1)), (2, .int x2), (3, .int x3), (4, .int x4)]) hx hb dX3_takeIn_49 hl (by decide) rfl (fun ls hl => ?_)
      refine lv_aload hx hb dX3_takeIn_51 (lv_at hl 0 rfl) ?_
      refine w_get (v := .int (st 3 j_4)) C hinRX1 hI (7 + j_4) (at_V0 hj_4) rfl 3 (by decide) lk63 rfl rfl dX3_takeIn_53 ?_
      refine lv_iload_n hx hb dX3_takeIn_56 rfl (lv_at hl 3 rfl) ?_
      refine lv_iand hx hb dX3_takeIn_57 ?_
      refine gen_i h (fun v_5 h => ?_)
      refine lv_istore (lv' := [(6, .int v_5), (5, .ref (ad (7 + j_4))), (0, .ref (ad 42)), (1, .ref (ad 1)), (2, .int x2), (3, .int x3), (4, .int x4)]) hx hb dX3_takeIn_58 hl (by decide) rfl (fun ls hl => ?_)
      refine lv_aload hx hb dX3_takeIn_60 (lv_at hl 1 rfl) ?_
      obtain ⟨r_7, hr_6, h⟩ := bd1_some h
      refine callV_I (rest := []) C hI (c_X1_goodsSurelyLacked l g Y ad N j_4 hj_4 st hr_6) (cwV 0 hts gX3_takeIn_X1_goodsSurelyLacked rfl rfl rfl hv_X1_goodsSurelyLacked ⟨Nat.le_of_ble_eq_true rfl, Nat.le_of_ble_eq_true rfl⟩) (w_recv C hI (7 + j_4) (at_V0 hj_4) rfl) rfl hl.1 rfl (Nat.le_of_ble_eq_true rfl) dX3_takeIn_62 (fun H locs hI => ?_)
      refine lv_iload_n hx hb dX3_takeIn_65 rfl (lv_at hl 4 rfl) ?_
      refine lv_iand hx hb dX3_takeIn_66 ?_
      refine gen_i h (fun v_8 h => ?_)
      refine lv_istore (lv' := [(7, .int v_8), (6, .int v_5), (5, .ref (ad (7 + j_4))), (0, .ref (ad 42)), (1, .ref (ad 1)), (2, .int x2), (3, .int x3), (4, .int x4)]) hx hb dX3_takeIn_67 hl (by decide) rfl (fun ls hl => ?_)
      refine lv_aload_n hx hb dX3_takeIn_69 rfl (lv_at hl 3 rfl) ?_
      refine w_get (v := .ref (ad 43)) C hinRX3 hI 42 at_R rfl 0 (by decide) lk9 rfl rfl dX3_takeIn_70 ?_
      refine lv_iload hx hb dX3_takeIn_73 (lv_at hl 7 rfl) ?_
      refine w_ld C hI 43 ar_43 h dX3_takeIn_75 (fun j_9 hj_9 h => ?_)
      refine lv_iload hx hb dX3_takeIn_76 (lv_at hl 1 rfl) ?_
      refine lv_icmp_ne (tgt := 108) hx hb dX3_takeIn_78 (by decide) (fun c_10 => ?_) (fun c_10 => ?_)
      · replace h := (if_neg c_10).symm.trans h
        refine lv_iconst (v := 1) hx hb dX3_takeIn_108 (by decide) ?_
        refine lv_istore_n (lv' := [(3, .int 1), (7, .int v_8), (6, .int v_5), (5, .ref (ad (7 + j_4))), (0, .ref (ad 42)), (1, .ref (ad 1)), (2, .int x2), (4, .int x4)]) hx hb dX3_takeIn_109 rfl hl (by decide) rfl (fun ls hl => ?_)
        refine lv_aload_n hx hb dX3_takeIn_110 rfl (lv_at hl 4 rfl) ?_
        refine w_get (v := .ref (ad 43)) C hinRX3 hI 42 at_R rfl 0 (by decide) lk9 rfl rfl dX3_takeIn_111 ?_
        refine lv_iload hx hb dX3_takeIn_114 (lv_at hl 7 rfl) ?_
        refine lv_iload hx hb dX3_takeIn_116 (lv_at hl 2 rfl) ?_
        refine w_st C hI 43 ar_43 sa_43 h dX3_takeIn_118 (fun st_11 H locs h hI => ?_)
        refine lv_aload_n hx hb dX3_takeIn_119 rfl (lv_at hl 4 rfl) ?_
        refine w_get (v := .ref (ad 44)) C hinRX3 hI 42 at_R rfl 1 (by decide) lk15 rfl rfl dX3_takeIn_120 ?_
        refine lv_iload hx hb dX3_takeIn_123 (lv_at hl 7 rfl) ?_
        refine lv_iload hx hb dX3_takeIn_125 (lv_at hl 1 rfl) ?_
        refine w_st C hI 44 ar_44 sa_44 h dX3_takeIn_127 (fun st_12 H locs h hI => ?_)
        refine lv_aload_n hx hb dX3_takeIn_128 rfl (lv_at hl 4 rfl) ?_
        refine w_get (v := .ref (ad 45)) C hinRX3 hI 42 at_R rfl 2 (by decide) lk18 rfl rfl dX3_takeIn_129 ?_
        refine lv_iload hx hb dX3_takeIn_132 (lv_at hl 7 rfl) ?_
        refine lv_aload hx hb dX3_takeIn_134 (lv_at hl 3 rfl) ?_
        refine w_get (v := .int (st_12 6 j_4)) C hinRX1 hI (7 + j_4) (at_V0 hj_4) rfl 6 (by decide) lk71 rfl rfl dX3_takeIn_136 ?_
        refine w_st C hI 45 ar_45 sa_45 h dX3_takeIn_139 (fun st_13 H locs h hI => ?_)
        refine lv_iinc (v := x4 + 1) (lv' := [(4, .int (x4 + 1)), (3, .int 1), (7, .int v_8), (6, .int v_5), (5, .ref (ad (7 + j_4))), (0, .ref (ad 42)), (1, .ref (ad 1)), (2, .int x2)]) hx hb dX3_takeIn_140 hl (k := 7) rfl rfl (by decide) rfl (fun ls hl => ?_)
        refine lv_goto (tgt := 33) hx hb dX3_takeIn_143 (by decide) ?_
        exact ih _ _ _ _ _ _ h hI (lv_sub hl [5, 6, 7, 1, 0] rfl)
      · replace h := (if_pos c_10).symm.trans h
        refine lv_aload_n hx hb dX3_takeIn_81 rfl (lv_at hl 3 rfl) ?_
        refine w_get (v := .ref (ad 44)) C hinRX3 hI 42 at_R rfl 1 (by decide) lk15 rfl rfl dX3_takeIn_82 ?_
        refine lv_iload hx hb dX3_takeIn_85 (lv_at hl 7 rfl) ?_
        refine w_ld C hI 44 ar_44 h dX3_takeIn_87 (fun j_14 hj_14 h => ?_)
        refine lv_iload hx hb dX3_takeIn_88 (lv_at hl 0 rfl) ?_
        refine lv_icmp_ne (tgt := 108) hx hb dX3_takeIn_90 (by decide) (fun c_15 => ?_) (fun c_15 => ?_)
        · replace h := (if_neg c_15).symm.trans h
          refine lv_iconst (v := 1) hx hb dX3_takeIn_108 (by decide) ?_
          refine lv_istore_n (lv' := [(3, .int 1), (7, .int v_8), (6, .int v_5), (5, .ref (ad (7 + j_4))), (0, .ref (ad 42)), (1, .ref (ad 1)), (2, .int x2), (4, .int x4)]) hx hb dX3_takeIn_109 rfl hl (by decide) rfl (fun ls hl => ?_)
          refine lv_aload_n hx hb dX3_takeIn_110 rfl (lv_at hl 4 rfl) ?_
          refine w_get (v := .ref (ad 43)) C hinRX3 hI 42 at_R rfl 0 (by decide) lk9 rfl rfl dX3_takeIn_111 ?_
          refine lv_iload hx hb dX3_takeIn_114 (lv_at hl 7 rfl) ?_
          refine lv_iload hx hb dX3_takeIn_116 (lv_at hl 2 rfl) ?_
          refine w_st C hI 43 ar_43 sa_43 h dX3_takeIn_118 (fun st_16 H locs h hI => ?_)
          refine lv_aload_n hx hb dX3_takeIn_119 rfl (lv_at hl 4 rfl) ?_
          refine w_get (v := .ref (ad 44)) C hinRX3 hI 42 at_R rfl 1 (by decide) lk15 rfl rfl dX3_takeIn_120 ?_
          refine lv_iload hx hb dX3_takeIn_123 (lv_at hl 7 rfl) ?_
          refine lv_iload hx hb dX3_takeIn_125 (lv_at hl 1 rfl) ?_
          refine w_st C hI 44 ar_44 sa_44 h dX3_takeIn_127 (fun st_17 H locs h hI => ?_)
          refine lv_aload_n hx hb dX3_takeIn_128 rfl (lv_at hl 4 rfl) ?_
          refine w_get (v := .ref (ad 45)) C hinRX3 hI 42 at_R rfl 2 (by decide) lk18 rfl rfl dX3_takeIn_129 ?_
          refine lv_iload hx hb dX3_takeIn_132 (lv_at hl 7 rfl) ?_
          refine lv_aload hx hb dX3_takeIn_134 (lv_at hl 3 rfl) ?_
          refine w_get (v := .int (st_17 6 j_4)) C hinRX1 hI (7 + j_4) (at_V0 hj_4) rfl 6 (by decide) lk71 rfl rfl dX3_takeIn_136 ?_
          refine w_st C hI 45 ar_45 sa_45 h dX3_takeIn_139 (fun st_18 H locs h hI => ?_)
          refine lv_iinc (v := x4 + 1) (lv' := [(4, .int (x4 + 1)), (3, .int 1), (7, .int v_8), (6, .int v_5), (5, .ref (ad (7 + j_4))), (0, .ref (ad 42)), (1, .ref (ad 1)), (2, .int x2)]) hx hb dX3_takeIn_140 hl (k := 7) rfl rfl (by decide) rfl (fun ls hl => ?_)
          refine lv_goto (tgt := 33) hx hb dX3_takeIn_143 (by decide) ?_
          exact ih _ _ _ _ _ _ h hI (lv_sub hl [5, 6, 7, 1, 0] rfl)
        · replace h := (if_pos c_15).symm.trans h
          refine lv_aload_n hx hb dX3_takeIn_93 rfl (lv_at hl 3 rfl) ?_
          refine w_get (v := .ref (ad 45)) C hinRX3 hI 42 at_R rfl 2 (by decide) lk18 rfl rfl dX3_takeIn_94 ?_
          refine lv_iload hx hb dX3_takeIn_97 (lv_at hl 7 rfl) ?_
          refine w_ld C hI 45 ar_45 h dX3_takeIn_99 (fun j_19 hj_19 h => ?_)
          refine lv_aload hx hb dX3_takeIn_100 (lv_at hl 2 rfl) ?_
          refine w_get (v := .int (st 6 j_4)) C hinRX1 hI (7 + j_4) (at_V0 hj_4) rfl 6 (by decide) lk71 rfl rfl dX3_takeIn_102 ?_
          refine lv_icmp_eq (tgt := 110) hx hb dX3_takeIn_105 (by decide) (fun c_20 => ?_) (fun c_20 => ?_)
          · replace h := (if_pos c_20).symm.trans h
            refine lv_aload_n hx hb dX3_takeIn_110 rfl (lv_at hl 3 rfl) ?_
            refine w_get (v := .ref (ad 43)) C hinRX3 hI 42 at_R rfl 0 (by decide) lk9 rfl rfl dX3_takeIn_111 ?_
            refine lv_iload hx hb dX3_takeIn_114 (lv_at hl 7 rfl) ?_
            refine lv_iload hx hb dX3_takeIn_116 (lv_at hl 1 rfl) ?_
            refine w_st C hI 43 ar_43 sa_43 h dX3_takeIn_118 (fun st_21 H locs h hI => ?_)
            refine lv_aload_n hx hb dX3_takeIn_119 rfl (lv_at hl 3 rfl) ?_
            refine w_get (v := .ref (ad 44)) C hinRX3 hI 42 at_R rfl 1 (by decide) lk15 rfl rfl dX3_takeIn_120 ?_
            refine lv_iload hx hb dX3_takeIn_123 (lv_at hl 7 rfl) ?_
            refine lv_iload hx hb dX3_takeIn_125 (lv_at hl 0 rfl) ?_
            refine w_st C hI 44 ar_44 sa_44 h dX3_takeIn_127 (fun st_22 H locs h hI => ?_)
            refine lv_aload_n hx hb dX3_takeIn_128 rfl (lv_at hl 3 rfl) ?_
            refine w_get (v := .ref (ad 45)) C hinRX3 hI 42 at_R rfl 2 (by decide) lk18 rfl rfl dX3_takeIn_129 ?_
            refine lv_iload hx hb dX3_takeIn_132 (lv_at hl 7 rfl) ?_
            refine lv_aload hx hb dX3_takeIn_134 (lv_at hl 2 rfl) ?_
            refine w_get (v := .int (st_22 6 j_4)) C hinRX1 hI (7 + j_4) (at_V0 hj_4) rfl 6 (by decide) lk71 rfl rfl dX3_takeIn_136 ?_
            refine w_st C hI 45 ar_45 sa_45 h dX3_takeIn_139 (fun st_23 H locs h hI => ?_)
            refine lv_iinc (v := x4 + 1) (lv' := [(4, .int (x4 + 1)), (7, .int v_8), (6, .int v_5), (5, .ref (ad (7 + j_4))), (0, .ref (ad 42)), (1, .ref (ad 1)), (2, .int x2), (3, .int x3)]) hx hb dX3_takeIn_140 hl (k := 7) rfl rfl (by decide) rfl (fun ls hl => ?_)
            refine lv_goto (tgt := 33) hx hb dX3_takeIn_143 (by decide) ?_
            exact ih _ _ _ _ _ _ h hI (lv_sub hl [4, 5, 6, 7, 0] rfl)
          · replace h := (if_neg c_20).symm.trans h
            refine lv_iconst (v := 1) hx hb dX3_takeIn_108 (by decide) ?_
            refine lv_istore_n (lv' := [(3, .int 1), (7, .int v_8), (6, .int v_5), (5, .ref (ad (7 + j_4))), (0, .ref (ad 42)), (1, .ref (ad 1)), (2, .int x2), (4, .int x4)]) hx hb dX3_takeIn_109 rfl hl (by decide) rfl (fun ls hl => ?_)
            refine lv_aload_n hx hb dX3_takeIn_110 rfl (lv_at hl 4 rfl) ?_
            refine w_get (v := .ref (ad 43)) C hinRX3 hI 42 at_R rfl 0 (by decide) lk9 rfl rfl dX3_takeIn_111 ?_
            refine lv_iload hx hb dX3_takeIn_114 (lv_at hl 7 rfl) ?_
            refine lv_iload hx hb dX3_takeIn_116 (lv_at hl 2 rfl) ?_
            refine w_st C hI 43 ar_43 sa_43 h dX3_takeIn_118 (fun st_24 H locs h hI => ?_)
            refine lv_aload_n hx hb dX3_takeIn_119 rfl (lv_at hl 4 rfl) ?_
            refine w_get (v := .ref (ad 44)) C hinRX3 hI 42 at_R rfl 1 (by decide) lk15 rfl rfl dX3_takeIn_120 ?_
            refine lv_iload hx hb dX3_takeIn_123 (lv_at hl 7 rfl) ?_
            refine lv_iload hx hb dX3_takeIn_125 (lv_at hl 1 rfl) ?_
            refine w_st C hI 44 ar_44 sa_44 h dX3_takeIn_127 (fun st_25 H locs h hI => ?_)
            refine lv_aload_n hx hb dX3_takeIn_128 rfl (lv_at hl 4 rfl) ?_
            refine w_get (v := .ref (ad 45)) C hinRX3 hI 42 at_R rfl 2 (by decide) lk18 rfl rfl dX3_takeIn_129 ?_
            refine lv_iload hx hb dX3_takeIn_132 (lv_at hl 7 rfl) ?_
            refine lv_aload hx hb dX3_takeIn_134 (lv_at hl 3 rfl) ?_
            refine w_get (v := .int (st_25 6 j_4)) C hinRX1 hI (7 + j_4) (at_V0 hj_4) rfl 6 (by decide) lk71 rfl rfl dX3_takeIn_136 ?_
            refine w_st C hI 45 ar_45 sa_45 h dX3_takeIn_139 (fun st_26 H locs h hI => ?_)
            refine lv_iinc (v := x4 + 1) (lv' := [(4, .int (x4 + 1)), (3, .int 1), (7, .int v_8), (6, .int v_5), (5, .ref (ad (7 + j_4))), (0, .ref (ad 42)), (1, .ref (ad 1)), (2, .int x2)]) hx hb dX3_takeIn_140 hl (k := 7) rfl rfl (by decide) rfl (fun ls hl => ?_)
            refine lv_goto (tgt := 33) hx hb dX3_takeIn_143 (by decide) ?_
            exact ih _ _ _ _ _ _ h hI (lv_sub hl [5, 6, 7, 1, 0] rfl)
set_option maxHeartbeats 4000000 in
set_option maxRecDepth 100000 in
theorem c_X3_takeIn (l : Launch) (g : GP) (Y : va_W) (ad : Nat → Nat) (N : Nat) (x2 : Int32)  (st : St) {r : Bool} {st' : St} (h : f_X3_takeIn N st x2 = some (r, st')) : MetI l yX3_takeIn wsX3_takeIn rmX3_takeIn g (wCX g Y ad) [.ref (ad 42), .ref (ad 1), .int x2] st (b2i r) st' := by
  refine metI_of (cc := cX3_takeIn) (nL := 8) (ty := .boolean) (by decide) rfl (Nat.le_of_ble_eq_true rfl) (nar_b _) ?_
  intro p e s m below meth c Q A C hret H locs hI ls hl
  have C : Cx p s m _ c cX3_takeIn 8 wsX3_takeIn RX3 g A := C
  obtain ⟨hx, hb, hml, hown, hts⟩ := id C.1
  have hl : lv_has ls 8 [(0, .ref (ad 42)), (1, .ref (ad 1)), (2, .int x2)] := hl
  have hinRX3 : ∀ w ∈ u_ws RX3 TX3 8, w ∈ wsX3_takeIn := by decide +kernel
  have lk46 := hts (.fieldLink RX3 46 "GraveRows$RowSearch" "size" "I") (by decide +kernel)
  have hinRX2 : ∀ w ∈ u_ws RX2 TX2 7, w ∈ wsX3_takeIn := by decide +kernel
  have lk50 := hts (.fieldLink RX3 50 "GraveRows$Ground" "size" "I") (by decide +kernel)
  have ml53 := hts (.methodLink RX3 53 Lib.Math.min.name) (by decide +kernel)
  have msmin := hts (.static Lib.Math.min.name) (by decide +kernel)
  have mini := hts (.initialized "java/lang/Math") (by decide +kernel)
  have mcmin := hts (.code Lib.Math.min.name Lib.Math.min.code 2 (some .int)) (by decide +kernel)
  rw [f_X3_takeIn] at h
  refine lv_aload_n hx hb dX3_takeIn_0 rfl (lv_at hl 0 rfl) ?_
  refine w_get (v := .int (st 47 0)) C hinRX3 hI 42 at_R rfl 7 (by decide) lk46 rfl rfl dX3_takeIn_1 ?_
  refine lv_aload_n hx hb dX3_takeIn_4 rfl (lv_at hl 1 rfl) ?_
  refine w_get (v := .int (st 13 0)) C hinRX2 hI 1 at_G0 rfl 5 (by decide) lk50 rfl rfl dX3_takeIn_5 ?_
  refine lv_icmp_eq (tgt := 15) hx hb dX3_takeIn_8 (by decide) (fun c_1 => ?_) (fun c_1 => ?_)
  · replace h := (if_pos c_1).symm.trans h
    refine lv_iconst (v := 0) hx hb dX3_takeIn_15 (by decide) ?_
    refine lv_istore_n (lv' := [(3, .int 0), (0, .ref (ad 42)), (1, .ref (ad 1)), (2, .int x2)]) hx hb dX3_takeIn_16 rfl hl (by decide) rfl (fun ls hl => ?_)
    refine lv_aload_n hx hb dX3_takeIn_17 rfl (lv_at hl 1 rfl) ?_
    refine lv_aload_n hx hb dX3_takeIn_18 rfl (lv_at hl 2 rfl) ?_
    refine w_get (v := .int (st 13 0)) C hinRX2 hI 1 at_G0 rfl 5 (by decide) lk50 rfl rfl dX3_takeIn_19 ?_
    refine lv_bipush (v := 8) hx hb dX3_takeIn_22 (by decide) ?_
    refine w_mmin hx hb (hml.trans hl.1.symm) hown ml53 msmin mini mcmin (Nat.le_of_ble_eq_true rfl) (Nat.le_of_ble_eq_true rfl) dX3_takeIn_24 ?_
    refine w_put C hinRX3 tyX3 tyX3_ok nmX3 hI 42 at_R rfl 7 h st_R_size (by decide) (Nat.le_of_ble_eq_true rfl) lk46 ⟨rfl, rfl⟩ rfl rfl dX3_takeIn_27 (fun st_2 H locs h hI => ?_)
    refine lv_iconst (v := 0) hx hb dX3_takeIn_30 (by decide) ?_
    refine lv_istore (lv' := [(4, .int 0), (3, .int 0), (0, .ref (ad 42)), (1, .ref (ad 1)), (2, .int x2)]) hx hb dX3_takeIn_31 hl (by decide) rfl (fun ls hl => ?_)
    refine wl_X3_takeIn_L33 C hret N x2 _ (fun a_27 a_28 st_29 H locs ls h hI hl => ?_) N 0 0 st_2 H locs ls h hI (lv_sub hl [2, 3, 4, 1, 0] rfl)
    refine lv_iload_n hx hb dX3_takeIn_146 rfl (lv_at hl 3 rfl) ?_
    obtain ⟨b_30, hb_31, h⟩ := gz_some h
    rw [hb_31]
    obtain ⟨rfl, rfl⟩ := ret2 h
    exact hret H locs _ ls hI dX3_takeIn_147
  · replace h := (if_neg c_1).symm.trans h
    refine lv_iconst (v := 1) hx hb dX3_takeIn_11 (by decide) ?_
    refine lv_goto (tgt := 16) hx hb dX3_takeIn_12 (by decide) ?_
    refine lv_istore_n (lv' := [(3, .int 1), (0, .ref (ad 42)), (1, .ref (ad 1)), (2, .int x2)]) hx hb dX3_takeIn_16 rfl hl (by decide) rfl (fun ls hl => ?_)
    refine lv_aload_n hx hb dX3_takeIn_17 rfl (lv_at hl 1 rfl) ?_
    refine lv_aload_n hx hb dX3_takeIn_18 rfl (lv_at hl 2 rfl) ?_
    refine w_get (v := .int (st 13 0)) C hinRX2 hI 1 at_G0 rfl 5 (by decide) lk50 rfl rfl dX3_takeIn_19 ?_
    refine lv_bipush (v := 8) hx hb dX3_takeIn_22 (by decide) ?_
    refine w_mmin hx hb (hml.trans hl.1.symm) hown ml53 msmin mini mcmin (Nat.le_of_ble_eq_true rfl) (Nat.le_of_ble_eq_true rfl) dX3_takeIn_24 ?_
    refine w_put C hinRX3 tyX3 tyX3_ok nmX3 hI 42 at_R rfl 7 h st_R_size (by decide) (Nat.le_of_ble_eq_true rfl) lk46 ⟨rfl, rfl⟩ rfl rfl dX3_takeIn_27 (fun st_32 H locs h hI => ?_)
    refine lv_iconst (v := 0) hx hb dX3_takeIn_30 (by decide) ?_
    refine lv_istore (lv' := [(4, .int 0), (3, .int 1), (0, .ref (ad 42)), (1, .ref (ad 1)), (2, .int x2)]) hx hb dX3_takeIn_31 hl (by decide) rfl (fun ls hl => ?_)
    refine wl_X3_takeIn_L33 C hret N x2 _ (fun a_33 a_34 st_35 H locs ls h hI hl => ?_) N 1 0 st_32 H locs ls h hI (lv_sub hl [2, 3, 4, 1, 0] rfl)
    refine lv_iload_n hx hb dX3_takeIn_146 rfl (lv_at hl 3 rfl) ?_
    obtain ⟨b_36, hb_37, h⟩ := gz_some h
    rw [hb_37]
    obtain ⟨rfl, rfl⟩ := ret2 h
    exact hret H locs _ ls hI dX3_takeIn_147
theorem hv_X3_takeIn : yX3_takeIn.cls = RX3 ∧ yX3_takeIn.cls ≠ "java/lang/invoke/MethodHandle" ∧ yX3_takeIn.cls ≠ "java/lang/invoke/VarHandle" ∧ (parseMethodDescriptor yX3_takeIn.desc).map (fun d => d.parameters.length) = some 2 := by decide +kernel
/-! X3_joinGoods -/
def rmX3_joinGoods : Room := { frames := 0, cells := 0, slots := 0, locals := 0 }
def f_X3_joinGoods_L16 (N : Nat) (x1 : Int32) (x2 : Int32) (k : Int32 → St → Option (St)) : Nat → Int32 → St → Option (St)
  | 0, _, _ => none
  | n + 1, x3, st => if x2 ≤ x3 then k x3 st else ck 256 x3 fun j_4 => ck 8 x1 fun j_5 => sto 256 st 43 (x2 + x3) ((st 43 j_4) ||| (st 40 j_5)) fun st_6 => f_X3_joinGoods_L16 N x1 x2 k n (x3 + 1) st_6
def f_X3_joinGoods_L2 (N : Nat) (k : Int32 → St → Option (St)) : Nat → Int32 → St → Option (St)
  | 0, _, _ => none
  | n + 1, x1, st => if st 47 0 ≤ x1 then k x1 st else bnd ((1 : Int32) <<< (x1 &&& 31)) fun v_2 => f_X3_joinGoods_L16 N x1 v_2 (fun a_7 st_8 => f_X3_joinGoods_L2 N k n (x1 + 1) st_8) N 0 st
def f_X3_joinGoods (N : Nat) (st : St) : Option (St) := f_X3_joinGoods_L2 N (fun a_9 st_10 => some st_10) N 0 st
set_option maxHeartbeats 4000000 in
set_option maxRecDepth 100000 in
theorem wl_X3_joinGoods_L16 {p : Program} {l : Launch} {e : Env} {s : State} {m : MethodId} {args : Array Value} {below : List Frame} {meth : Method} {c : Code} {Q : State → Prop} {A : Nat → Prop} {g : GP} {Y : va_W} {ad : Nat → Nat} {st' : St} (C : Cx p s m args c cX3_joinGoods 4 wsX3_joinGoods RX3 g A) (hret : RetV p l e rmX3_joinGoods s m args below meth c Q cX3_joinGoods g A (wCX g Y ad st')) (N : Nat) (x1 : Int32) (x2 : Int32)  (k : Int32 → St → Option (St)) (hk : ∀ (x3 : Int32) (st : St) (H : Heap) (locs : List Loc) (ls : Array Slot), k x3 st = some st' → IW g A s.heap (wCX g Y ad st) H locs → lv_has ls 4 [(0, .ref (ad 42)), (1, .int x1), (2, .int x2), (3, .int x3)] → W p l e rmX3_joinGoods s m args below meth c H locs 0 0 Q (F0 m 48 ls [])) : ∀ (n : Nat) (x3 : Int32) (st : St) (H : Heap) (locs : List Loc) (ls : Array Slot), f_X3_joinGoods_L16 N x1 x2 k n x3 st = some st' → IW g A s.heap (wCX g Y ad st) H locs → lv_has ls 4 [(0, .ref (ad 42)), (1, .int x1), (2, .int x2), (3, .int x3)] → W p l e rmX3_joinGoods s m args below meth c H locs 0 0 Q (F0 m 16 ls []) := by
  obtain ⟨hx, hb, hml, hown, hts⟩ := id C.1
  have hinRX3 : ∀ w ∈ u_ws RX3 TX3 8, w ∈ wsX3_joinGoods := by decide +kernel
  have lk21 := hts (.fieldLink RX3 21 "GraveRows$RowSearch" "goodsOfSet" "[I") (by decide +kernel)
  have lk9 := hts (.fieldLink RX3 9 "GraveRows$RowSearch" "goods" "[I") (by decide +kernel)
  intro n
  induction n with
  | zero =>
    intro x3 st H locs ls h hI hl
    rw [f_X3_joinGoods_L16] at h
    cases h
  | succ n ih =>
    intro x3 st H locs ls h hI hl
    rw [f_X3_joinGoods_L16] at h
    refine lv_iload_n hx hb dX3_joinGoods_16 rfl (lv_at hl 3 rfl) ?_
    refine lv_iload_n hx hb dX3_joinGoods_17 rfl (lv_at hl 2 rfl) ?_
    refine lv_icmp_ge (tgt := 48) hx hb dX3_joinGoods_18 (by decide) (fun c_3 => ?_) (fun c_3 => ?_)
    · replace h := (if_pos c_3).symm.trans h
      exact hk _ _ _ _ _ h hI (lv_sub hl [0, 1, 2, 3] rfl)
    · replace h := (if_neg c_3).symm.trans h
      refine lv_aload_n hx hb dX3_joinGoods_21 rfl (lv_at hl 0 rfl) ?_
      refine w_get (v := .ref (ad 46)) C hinRX3 hI 42 at_R rfl 3 (by decide) lk21 rfl rfl dX3_joinGoods_22 ?_
      refine lv_iload_n hx hb dX3_joinGoods_25 rfl (lv_at hl 2 rfl) ?_
      refine lv_iload_n hx hb dX3_joinGoods_26 rfl (lv_at hl 3 rfl) ?_
      refine lv_iadd hx hb dX3_joinGoods_27 ?_
      refine lv_aload_n hx hb dX3_joinGoods_28 rfl (lv_at hl 0 rfl) ?_
      refine w_get (v := .ref (ad 46)) C hinRX3 hI 42 at_R rfl 3 (by decide) lk21 rfl rfl dX3_joinGoods_29 ?_
      refine lv_iload_n hx hb dX3_joinGoods_32 rfl (lv_at hl 3 rfl) ?_
      refine w_ld C hI 46 ar_46 h dX3_joinGoods_33 (fun j_4 hj_4 h => ?_)
      refine lv_aload_n hx hb dX3_joinGoods_34 rfl (lv_at hl 0 rfl) ?_
      refine w_get (v := .ref (ad 43)) C hinRX3 hI 42 at_R rfl 0 (by decide) lk9 rfl rfl dX3_joinGoods_35 ?_
      refine lv_iload_n hx hb dX3_joinGoods_38 rfl (lv_at hl 1 rfl) ?_
      refine w_ld C hI 43 ar_43 h dX3_joinGoods_39 (fun j_5 hj_5 h => ?_)
      refine lv_ior hx hb dX3_joinGoods_40 ?_
      refine w_st C hI 46 ar_46 sa_46 h dX3_joinGoods_41 (fun st_6 H locs h hI => ?_)
      refine lv_iinc (v := x3 + 1) (lv' := [(3, .int (x3 + 1)), (0, .ref (ad 42)), (1, .int x1), (2, .int x2)]) hx hb dX3_joinGoods_42 hl (k := 3) rfl rfl (by decide) rfl (fun ls hl => ?_)
      refine lv_goto (tgt := 16) hx hb dX3_joinGoods_45 (by decide) ?_
      exact ih _ _ _ _ _ h hI (lv_sub hl [1, 2, 3, 0] rfl)
set_option maxHeartbeats 4000000 in
set_option maxRecDepth 100000 in
theorem wl_X3_joinGoods_L2 {p : Program} {l : Launch} {e : Env} {s : State} {m : MethodId} {args : Array Value} {below : List Frame} {meth : Method} {c : Code} {Q : State → Prop} {A : Nat → Prop} {g : GP} {Y : va_W} {ad : Nat → Nat} {st' : St} (C : Cx p s m args c cX3_joinGoods 4 wsX3_joinGoods RX3 g A) (hret : RetV p l e rmX3_joinGoods s m args below meth c Q cX3_joinGoods g A (wCX g Y ad st')) (N : Nat)  (k : Int32 → St → Option (St)) (hk : ∀ (x1 : Int32) (st : St) (H : Heap) (locs : List Loc) (ls : Array Slot), k x1 st = some st' → IW g A s.heap (wCX g Y ad st) H locs → lv_has ls 4 [(0, .ref (ad 42)), (1, .int x1)] → W p l e rmX3_joinGoods s m args below meth c H locs 0 0 Q (F0 m 54 ls [])) : ∀ (n : Nat) (x1 : Int32) (st : St) (H : Heap) (locs : List Loc) (ls : Array Slot), f_X3_joinGoods_L2 N k n x1 st = some st' → IW g A s.heap (wCX g Y ad st) H locs → lv_has ls 4 [(0, .ref (ad 42)), (1, .int x1)] → W p l e rmX3_joinGoods s m args below meth c H locs 0 0 Q (F0 m 2 ls []) := by
  obtain ⟨hx, hb, hml, hown, hts⟩ := id C.1
  have hinRX3 : ∀ w ∈ u_ws RX3 TX3 8, w ∈ wsX3_joinGoods := by decide +kernel
  have lk46 := hts (.fieldLink RX3 46 "GraveRows$RowSearch" "size" "I") (by decide +kernel)
  intro n
  induction n with
  | zero =>
    intro x1 st H locs ls h hI hl
    rw [f_X3_joinGoods_L2] at h
    cases h
  | succ n ih =>
    intro x1 st H locs ls h hI hl
    rw [f_X3_joinGoods_L2] at h
    refine lv_iload_n hx hb dX3_joinGoods_2 rfl (lv_at hl 1 rfl) ?_
    refine lv_aload_n hx hb dX3_joinGoods_3 rfl (lv_at hl 0 rfl) ?_
    refine w_get (v := .int (st 47 0)) C hinRX3 hI 42 at_R rfl 7 (by decide) lk46 rfl rfl dX3_joinGoods_4 ?_
    refine lv_icmp_ge (tgt := 54) hx hb dX3_joinGoods_7 (by decide) (fun c_1 => ?_) (fun c_1 => ?_)
    · replace h := (if_pos c_1).symm.trans h
      exact hk _ _ _ _ _ h hI (lv_sub hl [0, 1] rfl)
    · replace h := (if_neg c_1).symm.trans h
      refine lv_iconst (v := 1) hx hb dX3_joinGoods_10 (by decide) ?_
      refine lv_iload_n hx hb dX3_joinGoods_11 rfl (lv_at hl 1 rfl) ?_
      refine lv_ishl hx hb dX3_joinGoods_12 ?_
      refine gen_i h (fun v_2 h => ?_)
      refine lv_istore_n (lv' := [(2, .int v_2), (0, .ref (ad 42)), (1, .int x1)]) hx hb dX3_joinGoods_13 rfl hl (by decide) rfl (fun ls hl => ?_)
      refine lv_iconst (v := 0) hx hb dX3_joinGoods_14 (by decide) ?_
      refine lv_istore_n (lv' := [(3, .int 0), (2, .int v_2), (0, .ref (ad 42)), (1, .int x1)]) hx hb dX3_joinGoods_15 rfl hl (by decide) rfl (fun ls hl => ?_)
      refine wl_X3_joinGoods_L16 C hret N x1 v_2 _ (fun a_7 st_8 H locs ls h hI hl => ?_) N 0 st H locs ls h hI (lv_sub hl [2, 3, 1, 0] rfl)
      refine lv_iinc (v := x1 + 1) (lv' := [(1, .int (x1 + 1)), (0, .ref (ad 42)), (2, .int v_2), (3, .int a_7)]) hx hb dX3_joinGoods_48 hl (k := 1) rfl rfl (by decide) rfl (fun ls hl => ?_)
      refine lv_goto (tgt := 2) hx hb dX3_joinGoods_51 (by decide) ?_
      exact ih _ _ _ _ _ h hI (lv_sub hl [1, 0] rfl)
set_option maxHeartbeats 4000000 in
set_option maxRecDepth 100000 in
theorem c_X3_joinGoods (l : Launch) (g : GP) (Y : va_W) (ad : Nat → Nat) (N : Nat)  (st : St) {st' : St} (h : f_X3_joinGoods N st = some st') : MetV l yX3_joinGoods wsX3_joinGoods rmX3_joinGoods g (wCX g Y ad) [.ref (ad 42)] st st' := by
  refine metV_of (cc := cX3_joinGoods) (nL := 4) (by decide) rfl (Nat.le_of_ble_eq_true rfl) ?_
  intro p e s m below meth c Q A C hret H locs hI ls hl
  have C : Cx p s m _ c cX3_joinGoods 4 wsX3_joinGoods RX3 g A := C
  obtain ⟨hx, hb, hml, hown, hts⟩ := id C.1
  have hl : lv_has ls 4 [(0, .ref (ad 42))] := hl
  rw [f_X3_joinGoods] at h
  refine lv_iconst (v := 0) hx hb dX3_joinGoods_0 (by decide) ?_
  refine lv_istore_n (lv' := [(1, .int 0), (0, .ref (ad 42))]) hx hb dX3_joinGoods_1 rfl hl (by decide) rfl (fun ls hl => ?_)
  refine wl_X3_joinGoods_L2 C hret N _ (fun a_9 st_10 H locs ls h hI hl => ?_) N 0 st H locs ls h hI (lv_sub hl [1, 0] rfl)
  obtain rfl := ret1 h
  exact hret H locs _ ls hI dX3_joinGoods_54
theorem hv_X3_joinGoods : yX3_joinGoods.cls = RX3 ∧ yX3_joinGoods.cls ≠ "java/lang/invoke/MethodHandle" ∧ yX3_joinGoods.cls ≠ "java/lang/invoke/VarHandle" ∧ (parseMethodDescriptor yX3_joinGoods.desc).map (fun d => d.parameters.length) = some 0 := by decide +kernel
/-! X3_allGraves -/
def rmX3_allGraves : Room := { frames := 0, cells := 0, slots := 0, locals := 0 }
def f_X3_allGraves (st : St) : Int32 := ((1 : Int32) <<< ((st 47 0) &&& 31)) - 1
set_option maxHeartbeats 4000000 in
set_option maxRecDepth 100000 in
theorem c_X3_allGraves (l : Launch) (g : GP) (Y : va_W) (ad : Nat → Nat)  (st : St) : MetI l yX3_allGraves wsX3_allGraves rmX3_allGraves g (wCX g Y ad) [.ref (ad 42)] st (f_X3_allGraves st) st := by
  refine metI_of (cc := cX3_allGraves) (nL := 1) (ty := .int) (by decide) rfl (Nat.le_of_ble_eq_true rfl) rfl ?_
  intro p e s m below meth c Q A C hret H locs hI ls hl
  have C : Cx p s m _ c cX3_allGraves 1 wsX3_allGraves RX3 g A := C
  obtain ⟨hx, hb, hml, hown, hts⟩ := id C.1
  have hl : lv_has ls 1 [(0, .ref (ad 42))] := hl
  have hinRX3 : ∀ w ∈ u_ws RX3 TX3 8, w ∈ wsX3_allGraves := by decide +kernel
  have lk46 := hts (.fieldLink RX3 46 "GraveRows$RowSearch" "size" "I") (by decide +kernel)
  generalize hgen : f_X3_allGraves st = r at hret
  have h := hgen
  rw [f_X3_allGraves] at h
  refine lv_iconst (v := 1) hx hb dX3_allGraves_0 (by decide) ?_
  refine lv_aload_n hx hb dX3_allGraves_1 rfl (lv_at hl 0 rfl) ?_
  refine w_get (v := .int (st 47 0)) C hinRX3 hI 42 at_R rfl 7 (by decide) lk46 rfl rfl dX3_allGraves_2 ?_
  refine lv_ishl hx hb dX3_allGraves_5 ?_
  refine lv_iconst (v := 1) hx hb dX3_allGraves_6 (by decide) ?_
  refine lv_isub hx hb dX3_allGraves_7 ?_
  subst h
  exact hret H locs _ ls hI dX3_allGraves_8
theorem hv_X3_allGraves : yX3_allGraves.cls = RX3 ∧ yX3_allGraves.cls ≠ "java/lang/invoke/MethodHandle" ∧ yX3_allGraves.cls ≠ "java/lang/invoke/VarHandle" ∧ (parseMethodDescriptor yX3_allGraves.desc).map (fun d => d.parameters.length) = some 0 := by decide +kernel
/-! X3_mayFollow -/
def rmX3_mayFollow : Room := { frames := 1, cells := 0, slots := 0, locals := 21 }
def f_X3_mayFollow (st : St) (x1 : Int32) (x2 : Int32) : Option (Bool) := bnd (f_X5_isIn x1 x2) fun r_1 => if b2i r_1 = 0 then ck 8 x2 fun j_3 => if (st 42 j_3) &&& (x1 ^^^ (-1 : Int32)) = 0 then some true else some false else some false
set_option maxHeartbeats 4000000 in
set_option maxRecDepth 100000 in
theorem c_X3_mayFollow (l : Launch) (g : GP) (Y : va_W) (ad : Nat → Nat) (x1 : Int32) (x2 : Int32)  (st : St) {r : Bool}  (h : f_X3_mayFollow st x1 x2 = some r) : MetI l yX3_mayFollow wsX3_mayFollow rmX3_mayFollow g (wCX g Y ad) [.ref (ad 42), .int x1, .int x2] st (b2i r) st := by
  refine metI_of (cc := cX3_mayFollow) (nL := 3) (ty := .boolean) (by decide) rfl (Nat.le_of_ble_eq_true rfl) (nar_b _) ?_
  intro p e s m below meth c Q A C hret H locs hI ls hl
  have C : Cx p s m _ c cX3_mayFollow 3 wsX3_mayFollow RX3 g A := C
  obtain ⟨hx, hb, hml, hown, hts⟩ := id C.1
  have hl : lv_has ls 3 [(0, .ref (ad 42)), (1, .int x1), (2, .int x2)] := hl
  have iniRX5 := hts (.initialized RX5) (by decide +kernel)
  have staX5_isIn := hts (.static yX5_isIn) (by decide +kernel)
  have hinRX3 : ∀ w ∈ u_ws RX3 TX3 8, w ∈ wsX3_mayFollow := by decide +kernel
  have lk18 := hts (.fieldLink RX3 18 "GraveRows$RowSearch" "cuts" "[I") (by decide +kernel)
  rw [f_X3_mayFollow] at h
  refine lv_iload_n hx hb dX3_mayFollow_0 rfl (lv_at hl 1 rfl) ?_
  refine lv_iload_n hx hb dX3_mayFollow_1 rfl (lv_at hl 2 rfl) ?_
  refine callN_S (rest := []) C.1 (c_X5_isIn l x1 x2) ⟨va_cnB 2 hts gX3_mayFollow_X5_isIn_n84 rfl rfl rfl C.2.2.2.1 iniRX5 hd_X5_isIn ⟨Nat.le_of_ble_eq_true rfl, Nat.le_of_ble_eq_true rfl⟩, staX5_isIn, trivial⟩ rfl hl.1 rfl (Nat.le_of_ble_eq_true rfl) dX3_mayFollow_2 ?_
  refine gen_b h (fun r_1 h => ?_)
  refine lv_if_ne (tgt := 25) hx hb dX3_mayFollow_5 (by decide) (fun c_2 => ?_) (fun c_2 => ?_)
  · replace h := (if_neg c_2).symm.trans h
    refine lv_iconst (v := 0) hx hb dX3_mayFollow_25 (by decide) ?_
    obtain rfl := ret1 h
    exact hret H locs _ ls hI dX3_mayFollow_26
  · replace h := (if_pos c_2).symm.trans h
    refine lv_aload_n hx hb dX3_mayFollow_8 rfl (lv_at hl 0 rfl) ?_
    refine w_get (v := .ref (ad 45)) C hinRX3 hI 42 at_R rfl 2 (by decide) lk18 rfl rfl dX3_mayFollow_9 ?_
    refine lv_iload_n hx hb dX3_mayFollow_12 rfl (lv_at hl 2 rfl) ?_
    refine w_ld C hI 45 ar_45 h dX3_mayFollow_13 (fun j_3 hj_3 h => ?_)
    refine lv_iload_n hx hb dX3_mayFollow_14 rfl (lv_at hl 1 rfl) ?_
    refine lv_iconst (v := (-1)) hx hb dX3_mayFollow_15 (by decide) ?_
    refine lv_ixor hx hb dX3_mayFollow_16 ?_
    refine lv_iand hx hb dX3_mayFollow_17 ?_
    refine lv_if_ne (tgt := 25) hx hb dX3_mayFollow_18 (by decide) (fun c_4 => ?_) (fun c_4 => ?_)
    · replace h := (if_neg c_4).symm.trans h
      refine lv_iconst (v := 0) hx hb dX3_mayFollow_25 (by decide) ?_
      obtain rfl := ret1 h
      exact hret H locs _ ls hI dX3_mayFollow_26
    · replace h := (if_pos c_4).symm.trans h
      refine lv_iconst (v := 1) hx hb dX3_mayFollow_21 (by decide) ?_
      refine lv_goto (tgt := 26) hx hb dX3_mayFollow_22 (by decide) ?_
      obtain rfl := ret1 h
      exact hret H locs _ ls hI dX3_mayFollow_26
theorem hv_X3_mayFollow : yX3_mayFollow.cls = RX3 ∧ yX3_mayFollow.cls ≠ "java/lang/invoke/MethodHandle" ∧ yX3_mayFollow.cls ≠ "java/lang/invoke/VarHandle" ∧ (parseMethodDescriptor yX3_mayFollow.desc).map (fun d => d.parameters.length) = some 2 := by decide +kernel
/-! X3_costThrough -/
def rmX3_costThrough : Room := { frames := 1, cells := 0, slots := 0, locals := 20 }
def f_X3_costThrough (st : St) (x1 : Int32) (x2 : Int32) : Option (Int32) := bnd (x1 ||| ((1 : Int32) <<< (x2 &&& 31))) fun v_1 => ck 256 x1 fun j_2 => bnd (f_X3_allGraves st) fun r_3 => ck 256 (r_3 &&& (v_1 ^^^ (-1 : Int32))) fun j_4 => bnd ((st 43 j_2) &&& (st 43 j_4)) fun v_5 => ck 8 x2 fun j_6 => bnd (f_J6_bitCount_0f7a4 (v_5 &&& (st 41 j_6))) fun r_7 => ck 256 v_1 fun j_8 => some (r_7 + (st 44 j_8))
set_option maxHeartbeats 4000000 in
set_option maxRecDepth 100000 in
theorem c_X3_costThrough (l : Launch) (g : GP) (Y : va_W) (ad : Nat → Nat) (x1 : Int32) (x2 : Int32)  (st : St) {r : Int32}  (h : f_X3_costThrough st x1 x2 = some r) : MetI l yX3_costThrough wsX3_costThrough rmX3_costThrough g (wCX g Y ad) [.ref (ad 42), .int x1, .int x2] st (r) st := by
  refine metI_of (cc := cX3_costThrough) (nL := 5) (ty := .int) (by decide) rfl (Nat.le_of_ble_eq_true rfl) rfl ?_
  intro p e s m below meth c Q A C hret H locs hI ls hl
  have C : Cx p s m _ c cX3_costThrough 5 wsX3_costThrough RX3 g A := C
  obtain ⟨hx, hb, hml, hown, hts⟩ := id C.1
  have hl : lv_has ls 5 [(0, .ref (ad 42)), (1, .int x1), (2, .int x2)] := hl
  have hinRX3 : ∀ w ∈ u_ws RX3 TX3 8, w ∈ wsX3_costThrough := by decide +kernel
  have lk21 := hts (.fieldLink RX3 21 "GraveRows$RowSearch" "goodsOfSet" "[I") (by decide +kernel)
  have lk15 := hts (.fieldLink RX3 15 "GraveRows$RowSearch" "lacked" "[I") (by decide +kernel)
  have lk24 := hts (.fieldLink RX3 24 "GraveRows$RowSearch" "costBehind" "[I") (by decide +kernel)
  rw [f_X3_costThrough] at h
  refine lv_iload_n hx hb dX3_costThrough_0 rfl (lv_at hl 1 rfl) ?_
  refine lv_iconst (v := 1) hx hb dX3_costThrough_1 (by decide) ?_
  refine lv_iload_n hx hb dX3_costThrough_2 rfl (lv_at hl 2 rfl) ?_
  refine lv_ishl hx hb dX3_costThrough_3 ?_
  refine lv_ior hx hb dX3_costThrough_4 ?_
  refine gen_i h (fun v_1 h => ?_)
  refine lv_istore_n (lv' := [(3, .int v_1), (0, .ref (ad 42)), (1, .int x1), (2, .int x2)]) hx hb dX3_costThrough_5 rfl hl (by decide) rfl (fun ls hl => ?_)
  refine lv_aload_n hx hb dX3_costThrough_6 rfl (lv_at hl 1 rfl) ?_
  refine w_get (v := .ref (ad 46)) C hinRX3 hI 42 at_R rfl 3 (by decide) lk21 rfl rfl dX3_costThrough_7 ?_
  refine lv_iload_n hx hb dX3_costThrough_10 rfl (lv_at hl 2 rfl) ?_
  refine w_ld C hI 46 ar_46 h dX3_costThrough_11 (fun j_2 hj_2 h => ?_)
  refine lv_aload_n hx hb dX3_costThrough_12 rfl (lv_at hl 1 rfl) ?_
  refine w_get (v := .ref (ad 46)) C hinRX3 hI 42 at_R rfl 3 (by decide) lk21 rfl rfl dX3_costThrough_13 ?_
  refine lv_aload_n hx hb dX3_costThrough_16 rfl (lv_at hl 1 rfl) ?_
  refine callV_I (rest := [.ref (ad 46), .int (st 43 j_2)]) C hI (c_X3_allGraves l g Y ad st) (cwV 0 hts gX3_costThrough_X3_allGraves rfl rfl rfl hv_X3_allGraves ⟨Nat.le_of_ble_eq_true rfl, Nat.le_of_ble_eq_true rfl⟩) (w_recv C hI 42 at_R rfl) rfl hl.1 rfl (Nat.le_of_ble_eq_true rfl) dX3_costThrough_17 (fun H locs hI => ?_)
  refine gen_i h (fun r_3 h => ?_)
  refine lv_iload_n hx hb dX3_costThrough_20 rfl (lv_at hl 0 rfl) ?_
  refine lv_iconst (v := (-1)) hx hb dX3_costThrough_21 (by decide) ?_
  refine lv_ixor hx hb dX3_costThrough_22 ?_
  refine lv_iand hx hb dX3_costThrough_23 ?_
  refine w_ld C hI 46 ar_46 h dX3_costThrough_24 (fun j_4 hj_4 h => ?_)
  refine lv_iand hx hb dX3_costThrough_25 ?_
  refine gen_i h (fun v_5 h => ?_)
  refine lv_istore (lv' := [(4, .int v_5), (3, .int v_1), (0, .ref (ad 42)), (1, .int x1), (2, .int x2)]) hx hb dX3_costThrough_26 hl (by decide) rfl (fun ls hl => ?_)
  refine lv_iload hx hb dX3_costThrough_28 (lv_at hl 0 rfl) ?_
  refine lv_aload_n hx hb dX3_costThrough_30 rfl (lv_at hl 2 rfl) ?_
  refine w_get (v := .ref (ad 44)) C hinRX3 hI 42 at_R rfl 1 (by decide) lk15 rfl rfl dX3_costThrough_31 ?_
  refine lv_iload_n hx hb dX3_costThrough_34 rfl (lv_at hl 4 rfl) ?_
  refine w_ld C hI 44 ar_44 h dX3_costThrough_35 (fun j_6 hj_6 h => ?_)
  refine lv_iand hx hb dX3_costThrough_36 ?_
  refine callS_S (rest := []) C.1 (c_J6_bitCount_0f7a4 l (v_5 &&& (st 41 j_6))) (va_cwS 1 hts gX3_costThrough_J6_bitCount_0f7a4 rfl rfl rfl hd_J6_bitCount_0f7a4 ⟨Nat.le_of_ble_eq_true rfl, Nat.le_of_ble_eq_true rfl⟩) rfl hl.1 rfl (Nat.le_of_ble_eq_true rfl) dX3_costThrough_37 ?_
  refine gen_i h (fun r_7 h => ?_)
  refine lv_aload_n hx hb dX3_costThrough_40 rfl (lv_at hl 2 rfl) ?_
  refine w_get (v := .ref (ad 47)) C hinRX3 hI 42 at_R rfl 4 (by decide) lk24 rfl rfl dX3_costThrough_41 ?_
  refine lv_iload_n hx hb dX3_costThrough_44 rfl (lv_at hl 1 rfl) ?_
  refine w_ld C hI 47 ar_47 h dX3_costThrough_45 (fun j_8 hj_8 h => ?_)
  refine lv_iadd hx hb dX3_costThrough_46 ?_
  obtain rfl := ret1 h
  exact hret H locs _ ls hI dX3_costThrough_47
theorem hv_X3_costThrough : yX3_costThrough.cls = RX3 ∧ yX3_costThrough.cls ≠ "java/lang/invoke/MethodHandle" ∧ yX3_costThrough.cls ≠ "java/lang/invoke/VarHandle" ∧ (parseMethodDescriptor yX3_costThrough.desc).map (fun d => d.parameters.length) = some 2 := by decide +kernel
/-! X3_weighSets -/
def rmX3_weighSets : Room := { frames := 2, cells := 0, slots := 0, locals := 44 }
def f_X3_weighSets_L36 (N : Nat) (x2 : Int32) (st : St) (k : Int32 → Int32 → Int32 → Option (St)) : Nat → Int32 → Int32 → Int32 → Option (St)
  | 0, _, _, _ => none
  | n + 1, x3, x4, x5 => if st 47 0 ≤ x5 then k x3 x4 x5 else bd1 (f_X3_mayFollow st x2 x5) fun r_8 => if b2i r_8 = 0 then f_X3_weighSets_L36 N x2 st k n x3 x4 (x5 + 1) else bd1 (f_X3_costThrough st x2 x5) fun r_11 => if x3 ≤ r_11 then if r_11 = x3 then ck 256 (x2 ||| ((1 : Int32) <<< (x5 &&& 31))) fun j_14 => bnd (x4 + (st 45 j_14)) fun v_15 => f_X3_weighSets_L36 N x2 st k n x3 v_15 (x5 + 1) else f_X3_weighSets_L36 N x2 st k n x3 x4 (x5 + 1) else if r_11 = r_11 then ck 256 (x2 ||| ((1 : Int32) <<< (x5 &&& 31))) fun j_17 => bnd (0 + (st 45 j_17)) fun v_18 => f_X3_weighSets_L36 N x2 st k n r_11 v_18 (x5 + 1) else f_X3_weighSets_L36 N x2 st k n r_11 0 (x5 + 1)
def f_X3_weighSets_L23 (N : Nat) (k : Int32 → St → Option (St)) : Nat → Int32 → St → Option (St)
  | 0, _, _ => none
  | n + 1, x2, st => if x2 < 0 then k x2 st else f_X3_weighSets_L36 N x2 st (fun a_19 a_20 a_21 => sto 256 st 44 x2 a_19 fun st_22 => sto 256 st_22 45 x2 a_20 fun st_23 => f_X3_weighSets_L23 N k n (x2 + (-1)) st_23) N 1000000 0 0
def f_X3_weighSets (N : Nat) (st : St) : Option (St) := bnd (f_X3_allGraves st) fun r_1 => sto 256 st 44 r_1 0 fun st_2 => sto 256 st_2 45 r_1 1 fun st_3 => bnd (r_1 - 1) fun v_4 => f_X3_weighSets_L23 N (fun a_24 st_25 => some st_25) N v_4 st_3
set_option maxHeartbeats 4000000 in
set_option maxRecDepth 100000 in
theorem wl_X3_weighSets_L36 {p : Program} {l : Launch} {e : Env} {s : State} {m : MethodId} {args : Array Value} {below : List Frame} {meth : Method} {c : Code} {Q : State → Prop} {A : Nat → Prop} {g : GP} {Y : va_W} {ad : Nat → Nat} {st' : St} (C : Cx p s m args c cX3_weighSets 7 wsX3_weighSets RX3 g A) (hret : RetV p l e rmX3_weighSets s m args below meth c Q cX3_weighSets g A (wCX g Y ad st')) (N : Nat) (x2 : Int32) (st : St)  (k : Int32 → Int32 → Int32 → Option (St)) (hk : ∀ (x3 : Int32) (x4 : Int32) (x5 : Int32) (H : Heap) (locs : List Loc) (ls : Array Slot), k x3 x4 x5 = some st' → IW g A s.heap (wCX g Y ad st) H locs → lv_has ls 7 [(0, .ref (ad 42)), (2, .int x2), (3, .int x3), (4, .int x4), (5, .int x5)] → W p l e rmX3_weighSets s m args below meth c H locs 0 0 Q (F0 m 104 ls [])) : ∀ (n : Nat) (x3 : Int32) (x4 : Int32) (x5 : Int32) (H : Heap) (locs : List Loc) (ls : Array Slot), f_X3_weighSets_L36 N x2 st k n x3 x4 x5 = some st' → IW g A s.heap (wCX g Y ad st) H locs → lv_has ls 7 [(0, .ref (ad 42)), (2, .int x2), (3, .int x3), (4, .int x4), (5, .int x5)] → W p l e rmX3_weighSets s m args below meth c H locs 0 0 Q (F0 m 36 ls []) := by
  obtain ⟨hx, hb, hml, hown, hts⟩ := id C.1
  have hinRX3 : ∀ w ∈ u_ws RX3 TX3 8, w ∈ wsX3_weighSets := by decide +kernel
  have lk46 := hts (.fieldLink RX3 46 "GraveRows$RowSearch" "size" "I") (by decide +kernel)
  have lk27 := hts (.fieldLink RX3 27 "GraveRows$RowSearch" "waysBehind" "[I") (by decide +kernel)
  intro n
  induction n with
  | zero =>
    intro x3 x4 x5 H locs ls h hI hl
    rw [f_X3_weighSets_L36] at h
    cases h
  | succ n ih =>
    intro x3 x4 x5 H locs ls h hI hl
    rw [f_X3_weighSets_L36] at h
    refine lv_iload hx hb dX3_weighSets_36 (lv_at hl 4 rfl) ?_
    refine lv_aload_n hx hb dX3_weighSets_38 rfl (lv_at hl 0 rfl) ?_
    refine w_get (v := .int (st 47 0)) C hinRX3 hI 42 at_R rfl 7 (by decide) lk46 rfl rfl dX3_weighSets_39 ?_
    refine lv_icmp_ge (tgt := 104) hx hb dX3_weighSets_42 (by decide) (fun c_6 => ?_) (fun c_6 => ?_)
    · replace h := (if_pos c_6).symm.trans h
      exact hk _ _ _ _ _ _ h hI (lv_sub hl [0, 1, 2, 3, 4] rfl)
    · replace h := (if_neg c_6).symm.trans h
      refine lv_aload_n hx hb dX3_weighSets_45 rfl (lv_at hl 0 rfl) ?_
      refine lv_iload_n hx hb dX3_weighSets_46 rfl (lv_at hl 1 rfl) ?_
      refine lv_iload hx hb dX3_weighSets_47 (lv_at hl 4 rfl) ?_
      obtain ⟨r_8, hr_7, h⟩ := bd1_some h
      refine callV_I (rest := []) C hI (c_X3_mayFollow l g Y ad x2 x5 st hr_7) (cwV 2 hts gX3_weighSets_X3_mayFollow rfl rfl rfl hv_X3_mayFollow ⟨Nat.le_of_ble_eq_true rfl, Nat.le_of_ble_eq_true rfl⟩) (w_recv C hI 42 at_R rfl) rfl hl.1 rfl (Nat.le_of_ble_eq_true rfl) dX3_weighSets_49 (fun H locs hI => ?_)
      refine lv_if_eq (tgt := 98) hx hb dX3_weighSets_52 (by decide) (fun c_9 => ?_) (fun c_9 => ?_)
      · replace h := (if_pos c_9).symm.trans h
        refine lv_iinc (v := x5 + 1) (lv' := [(5, .int (x5 + 1)), (0, .ref (ad 42)), (2, .int x2), (3, .int x3), (4, .int x4)]) hx hb dX3_weighSets_98 hl (k := 4) rfl rfl (by decide) rfl (fun ls hl => ?_)
        refine lv_goto (tgt := 36) hx hb dX3_weighSets_101 (by decide) ?_
        exact ih _ _ _ _ _ _ h hI (lv_sub hl [1, 2, 3, 4, 0] rfl)
      · replace h := (if_neg c_9).symm.trans h
        refine lv_aload_n hx hb dX3_weighSets_55 rfl (lv_at hl 0 rfl) ?_
        refine lv_iload_n hx hb dX3_weighSets_56 rfl (lv_at hl 1 rfl) ?_
        refine lv_iload hx hb dX3_weighSets_57 (lv_at hl 4 rfl) ?_
        obtain ⟨r_11, hr_10, h⟩ := bd1_some h
        refine callV_I (rest := []) C hI (c_X3_costThrough l g Y ad x2 x5 st hr_10) (cwV 2 hts gX3_weighSets_X3_costThrough rfl rfl rfl hv_X3_costThrough ⟨Nat.le_of_ble_eq_true rfl, Nat.le_of_ble_eq_true rfl⟩) (w_recv C hI 42 at_R rfl) rfl hl.1 rfl (Nat.le_of_ble_eq_true rfl) dX3_weighSets_59 (fun H locs hI => ?_)
        refine lv_istore (lv' := [(6, .int r_11), (0, .ref (ad 42)), (2, .int x2), (3, .int x3), (4, .int x4), (5, .int x5)]) hx hb dX3_weighSets_62 hl (by decide) rfl (fun ls hl => ?_)
        refine lv_iload hx hb dX3_weighSets_64 (lv_at hl 0 rfl) ?_
        refine lv_iload_n hx hb dX3_weighSets_66 rfl (lv_at hl 3 rfl) ?_
        refine lv_icmp_ge (tgt := 76) hx hb dX3_weighSets_67 (by decide) (fun c_12 => ?_) (fun c_12 => ?_)
        · replace h := (if_pos c_12).symm.trans h
          refine lv_iload hx hb dX3_weighSets_76 (lv_at hl 0 rfl) ?_
          refine lv_iload_n hx hb dX3_weighSets_78 rfl (lv_at hl 3 rfl) ?_
          refine lv_icmp_ne (tgt := 98) hx hb dX3_weighSets_79 (by decide) (fun c_13 => ?_) (fun c_13 => ?_)
          · replace h := (if_neg c_13).symm.trans h
            refine lv_iinc (v := x5 + 1) (lv' := [(5, .int (x5 + 1)), (6, .int r_11), (0, .ref (ad 42)), (2, .int x2), (3, .int x3), (4, .int x4)]) hx hb dX3_weighSets_98 hl (k := 5) rfl rfl (by decide) rfl (fun ls hl => ?_)
            refine lv_goto (tgt := 36) hx hb dX3_weighSets_101 (by decide) ?_
            exact ih _ _ _ _ _ _ h hI (lv_sub hl [2, 3, 4, 5, 0] rfl)
          · replace h := (if_pos c_13).symm.trans h
            refine lv_iload hx hb dX3_weighSets_82 (lv_at hl 4 rfl) ?_
            refine lv_aload_n hx hb dX3_weighSets_84 rfl (lv_at hl 1 rfl) ?_
            refine w_get (v := .ref (ad 48)) C hinRX3 hI 42 at_R rfl 5 (by decide) lk27 rfl rfl dX3_weighSets_85 ?_
            refine lv_iload_n hx hb dX3_weighSets_88 rfl (lv_at hl 2 rfl) ?_
            refine lv_iconst (v := 1) hx hb dX3_weighSets_89 (by decide) ?_
            refine lv_iload hx hb dX3_weighSets_90 (lv_at hl 5 rfl) ?_
            refine lv_ishl hx hb dX3_weighSets_92 ?_
            refine lv_ior hx hb dX3_weighSets_93 ?_
            refine w_ld C hI 48 ar_48 h dX3_weighSets_94 (fun j_14 hj_14 h => ?_)
            refine lv_iadd hx hb dX3_weighSets_95 ?_
            refine gen_i h (fun v_15 h => ?_)
            refine lv_istore (lv' := [(4, .int v_15), (6, .int r_11), (0, .ref (ad 42)), (2, .int x2), (3, .int x3), (5, .int x5)]) hx hb dX3_weighSets_96 hl (by decide) rfl (fun ls hl => ?_)
            refine lv_iinc (v := x5 + 1) (lv' := [(5, .int (x5 + 1)), (4, .int v_15), (6, .int r_11), (0, .ref (ad 42)), (2, .int x2), (3, .int x3)]) hx hb dX3_weighSets_98 hl (k := 5) rfl rfl (by decide) rfl (fun ls hl => ?_)
            refine lv_goto (tgt := 36) hx hb dX3_weighSets_101 (by decide) ?_
            exact ih _ _ _ _ _ _ h hI (lv_sub hl [3, 4, 5, 1, 0] rfl)
        · replace h := (if_neg c_12).symm.trans h
          refine lv_iload hx hb dX3_weighSets_70 (lv_at hl 0 rfl) ?_
          refine lv_istore_n (lv' := [(3, .int r_11), (6, .int r_11), (0, .ref (ad 42)), (2, .int x2), (4, .int x4), (5, .int x5)]) hx hb dX3_weighSets_72 rfl hl (by decide) rfl (fun ls hl => ?_)
          refine lv_iconst (v := 0) hx hb dX3_weighSets_73 (by decide) ?_
          refine lv_istore (lv' := [(4, .int 0), (3, .int r_11), (6, .int r_11), (0, .ref (ad 42)), (2, .int x2), (5, .int x5)]) hx hb dX3_weighSets_74 hl (by decide) rfl (fun ls hl => ?_)
          refine lv_iload hx hb dX3_weighSets_76 (lv_at hl 2 rfl) ?_
          refine lv_iload_n hx hb dX3_weighSets_78 rfl (lv_at hl 1 rfl) ?_
          refine lv_icmp_ne (tgt := 98) hx hb dX3_weighSets_79 (by decide) (fun c_16 => ?_) (fun c_16 => ?_)
          · replace h := (if_neg c_16).symm.trans h
            refine lv_iinc (v := x5 + 1) (lv' := [(5, .int (x5 + 1)), (4, .int 0), (3, .int r_11), (6, .int r_11), (0, .ref (ad 42)), (2, .int x2)]) hx hb dX3_weighSets_98 hl (k := 5) rfl rfl (by decide) rfl (fun ls hl => ?_)
            refine lv_goto (tgt := 36) hx hb dX3_weighSets_101 (by decide) ?_
            exact ih _ _ _ _ _ _ h hI (lv_sub hl [4, 5, 2, 1, 0] rfl)
          · replace h := (if_pos c_16).symm.trans h
            refine lv_iload hx hb dX3_weighSets_82 (lv_at hl 0 rfl) ?_
            refine lv_aload_n hx hb dX3_weighSets_84 rfl (lv_at hl 3 rfl) ?_
            refine w_get (v := .ref (ad 48)) C hinRX3 hI 42 at_R rfl 5 (by decide) lk27 rfl rfl dX3_weighSets_85 ?_
            refine lv_iload_n hx hb dX3_weighSets_88 rfl (lv_at hl 4 rfl) ?_
            refine lv_iconst (v := 1) hx hb dX3_weighSets_89 (by decide) ?_
            refine lv_iload hx hb dX3_weighSets_90 (lv_at hl 5 rfl) ?_
            refine lv_ishl hx hb dX3_weighSets_92 ?_
            refine lv_ior hx hb dX3_weighSets_93 ?_
            refine w_ld C hI 48 ar_48 h dX3_weighSets_94 (fun j_17 hj_17 h => ?_)
            refine lv_iadd hx hb dX3_weighSets_95 ?_
            refine gen_i h (fun v_18 h => ?_)
            refine lv_istore (lv' := [(4, .int v_18), (3, .int r_11), (6, .int r_11), (0, .ref (ad 42)), (2, .int x2), (5, .int x5)]) hx hb dX3_weighSets_96 hl (by decide) rfl (fun ls hl => ?_)
            refine lv_iinc (v := x5 + 1) (lv' := [(5, .int (x5 + 1)), (4, .int v_18), (3, .int r_11), (6, .int r_11), (0, .ref (ad 42)), (2, .int x2)]) hx hb dX3_weighSets_98 hl (k := 5) rfl rfl (by decide) rfl (fun ls hl => ?_)
            refine lv_goto (tgt := 36) hx hb dX3_weighSets_101 (by decide) ?_
            exact ih _ _ _ _ _ _ h hI (lv_sub hl [4, 5, 2, 1, 0] rfl)
set_option maxHeartbeats 4000000 in
set_option maxRecDepth 100000 in
theorem wl_X3_weighSets_L23 {p : Program} {l : Launch} {e : Env} {s : State} {m : MethodId} {args : Array Value} {below : List Frame} {meth : Method} {c : Code} {Q : State → Prop} {A : Nat → Prop} {g : GP} {Y : va_W} {ad : Nat → Nat} {st' : St} (C : Cx p s m args c cX3_weighSets 7 wsX3_weighSets RX3 g A) (hret : RetV p l e rmX3_weighSets s m args below meth c Q cX3_weighSets g A (wCX g Y ad st')) (N : Nat)  (k : Int32 → St → Option (St)) (hk : ∀ (x2 : Int32) (st : St) (H : Heap) (locs : List Loc) (ls : Array Slot), k x2 st = some st' → IW g A s.heap (wCX g Y ad st) H locs → lv_has ls 7 [(0, .ref (ad 42)), (2, .int x2)] → W p l e rmX3_weighSets s m args below meth c H locs 0 0 Q (F0 m 125 ls [])) : ∀ (n : Nat) (x2 : Int32) (st : St) (H : Heap) (locs : List Loc) (ls : Array Slot), f_X3_weighSets_L23 N k n x2 st = some st' → IW g A s.heap (wCX g Y ad st) H locs → lv_has ls 7 [(0, .ref (ad 42)), (2, .int x2)] → W p l e rmX3_weighSets s m args below meth c H locs 0 0 Q (F0 m 23 ls []) := by
  obtain ⟨hx, hb, hml, hown, hts⟩ := id C.1
  have lc76 := hts (.constant RX3 76 (1000000)) (by decide +kernel)
  have hinRX3 : ∀ w ∈ u_ws RX3 TX3 8, w ∈ wsX3_weighSets := by decide +kernel
  have lk24 := hts (.fieldLink RX3 24 "GraveRows$RowSearch" "costBehind" "[I") (by decide +kernel)
  have lk27 := hts (.fieldLink RX3 27 "GraveRows$RowSearch" "waysBehind" "[I") (by decide +kernel)
  intro n
  induction n with
  | zero =>
    intro x2 st H locs ls h hI hl
    rw [f_X3_weighSets_L23] at h
    cases h
  | succ n ih =>
    intro x2 st H locs ls h hI hl
    rw [f_X3_weighSets_L23] at h
    refine lv_iload_n hx hb dX3_weighSets_23 rfl (lv_at hl 1 rfl) ?_
    refine lv_if_lt (tgt := 125) hx hb dX3_weighSets_24 (by decide) (fun c_5 => ?_) (fun c_5 => ?_)
    · replace h := (if_pos c_5).symm.trans h
      exact hk _ _ _ _ _ h hI (lv_sub hl [0, 1] rfl)
    · replace h := (if_neg c_5).symm.trans h
      refine lv_ldc (v := 1000000) hx hb hown lc76 dX3_weighSets_27 ?_
      refine lv_istore_n (lv' := [(3, .int 1000000), (0, .ref (ad 42)), (2, .int x2)]) hx hb dX3_weighSets_29 rfl hl (by decide) rfl (fun ls hl => ?_)
      refine lv_iconst (v := 0) hx hb dX3_weighSets_30 (by decide) ?_
      refine lv_istore (lv' := [(4, .int 0), (3, .int 1000000), (0, .ref (ad 42)), (2, .int x2)]) hx hb dX3_weighSets_31 hl (by decide) rfl (fun ls hl => ?_)
      refine lv_iconst (v := 0) hx hb dX3_weighSets_33 (by decide) ?_
      refine lv_istore (lv' := [(5, .int 0), (4, .int 0), (3, .int 1000000), (0, .ref (ad 42)), (2, .int x2)]) hx hb dX3_weighSets_34 hl (by decide) rfl (fun ls hl => ?_)
      refine wl_X3_weighSets_L36 C hret N x2 st _ (fun a_19 a_20 a_21 H locs ls h hI hl => ?_) N 1000000 0 0 H locs ls h hI (lv_sub hl [3, 4, 2, 1, 0] rfl)
      refine lv_aload_n hx hb dX3_weighSets_104 rfl (lv_at hl 0 rfl) ?_
      refine w_get (v := .ref (ad 47)) C hinRX3 hI 42 at_R rfl 4 (by decide) lk24 rfl rfl dX3_weighSets_105 ?_
      refine lv_iload_n hx hb dX3_weighSets_108 rfl (lv_at hl 1 rfl) ?_
      refine lv_iload_n hx hb dX3_weighSets_109 rfl (lv_at hl 2 rfl) ?_
      refine w_st C hI 47 ar_47 sa_47 h dX3_weighSets_110 (fun st_22 H locs h hI => ?_)
      refine lv_aload_n hx hb dX3_weighSets_111 rfl (lv_at hl 0 rfl) ?_
      refine w_get (v := .ref (ad 48)) C hinRX3 hI 42 at_R rfl 5 (by decide) lk27 rfl rfl dX3_weighSets_112 ?_
      refine lv_iload_n hx hb dX3_weighSets_115 rfl (lv_at hl 1 rfl) ?_
      refine lv_iload hx hb dX3_weighSets_116 (lv_at hl 3 rfl) ?_
      refine w_st C hI 48 ar_48 sa_48 h dX3_weighSets_118 (fun st_23 H locs h hI => ?_)
      refine lv_iinc (v := x2 + (-1)) (lv' := [(2, .int (x2 + (-1))), (0, .ref (ad 42)), (3, .int a_19), (4, .int a_20), (5, .int a_21)]) hx hb dX3_weighSets_119 hl (k := 1) rfl rfl (by decide) rfl (fun ls hl => ?_)
      refine lv_goto (tgt := 23) hx hb dX3_weighSets_122 (by decide) ?_
      exact ih _ _ _ _ _ h hI (lv_sub hl [1, 0] rfl)
set_option maxHeartbeats 4000000 in
set_option maxRecDepth 100000 in
theorem c_X3_weighSets (l : Launch) (g : GP) (Y : va_W) (ad : Nat → Nat) (N : Nat)  (st : St) {st' : St} (h : f_X3_weighSets N st = some st') : MetV l yX3_weighSets wsX3_weighSets rmX3_weighSets g (wCX g Y ad) [.ref (ad 42)] st st' := by
  refine metV_of (cc := cX3_weighSets) (nL := 7) (by decide) rfl (Nat.le_of_ble_eq_true rfl) ?_
  intro p e s m below meth c Q A C hret H locs hI ls hl
  have C : Cx p s m _ c cX3_weighSets 7 wsX3_weighSets RX3 g A := C
  obtain ⟨hx, hb, hml, hown, hts⟩ := id C.1
  have hl : lv_has ls 7 [(0, .ref (ad 42))] := hl
  have hinRX3 : ∀ w ∈ u_ws RX3 TX3 8, w ∈ wsX3_weighSets := by decide +kernel
  have lk24 := hts (.fieldLink RX3 24 "GraveRows$RowSearch" "costBehind" "[I") (by decide +kernel)
  have lk27 := hts (.fieldLink RX3 27 "GraveRows$RowSearch" "waysBehind" "[I") (by decide +kernel)
  rw [f_X3_weighSets] at h
  refine lv_aload_n hx hb dX3_weighSets_0 rfl (lv_at hl 0 rfl) ?_
  refine callV_I (rest := []) C hI (c_X3_allGraves l g Y ad st) (cwV 0 hts gX3_weighSets_X3_allGraves rfl rfl rfl hv_X3_allGraves ⟨Nat.le_of_ble_eq_true rfl, Nat.le_of_ble_eq_true rfl⟩) (w_recv C hI 42 at_R rfl) rfl hl.1 rfl (Nat.le_of_ble_eq_true rfl) dX3_weighSets_1 (fun H locs hI => ?_)
  refine gen_i h (fun r_1 h => ?_)
  refine lv_istore_n (lv' := [(1, .int r_1), (0, .ref (ad 42))]) hx hb dX3_weighSets_4 rfl hl (by decide) rfl (fun ls hl => ?_)
  refine lv_aload_n hx hb dX3_weighSets_5 rfl (lv_at hl 1 rfl) ?_
  refine w_get (v := .ref (ad 47)) C hinRX3 hI 42 at_R rfl 4 (by decide) lk24 rfl rfl dX3_weighSets_6 ?_
  refine lv_iload_n hx hb dX3_weighSets_9 rfl (lv_at hl 0 rfl) ?_
  refine lv_iconst (v := 0) hx hb dX3_weighSets_10 (by decide) ?_
  refine w_st C hI 47 ar_47 sa_47 h dX3_weighSets_11 (fun st_2 H locs h hI => ?_)
  refine lv_aload_n hx hb dX3_weighSets_12 rfl (lv_at hl 1 rfl) ?_
  refine w_get (v := .ref (ad 48)) C hinRX3 hI 42 at_R rfl 5 (by decide) lk27 rfl rfl dX3_weighSets_13 ?_
  refine lv_iload_n hx hb dX3_weighSets_16 rfl (lv_at hl 0 rfl) ?_
  refine lv_iconst (v := 1) hx hb dX3_weighSets_17 (by decide) ?_
  refine w_st C hI 48 ar_48 sa_48 h dX3_weighSets_18 (fun st_3 H locs h hI => ?_)
  refine lv_iload_n hx hb dX3_weighSets_19 rfl (lv_at hl 0 rfl) ?_
  refine lv_iconst (v := 1) hx hb dX3_weighSets_20 (by decide) ?_
  refine lv_isub hx hb dX3_weighSets_21 ?_
  refine gen_i h (fun v_4 h => ?_)
  refine lv_istore_n (lv' := [(2, .int v_4), (1, .int r_1), (0, .ref (ad 42))]) hx hb dX3_weighSets_22 rfl hl (by decide) rfl (fun ls hl => ?_)
  refine wl_X3_weighSets_L23 C hret N _ (fun a_24 st_25 H locs ls h hI hl => ?_) N v_4 st_3 H locs ls h hI (lv_sub hl [2, 0] rfl)
  obtain rfl := ret1 h
  exact hret H locs _ ls hI dX3_weighSets_125
theorem hv_X3_weighSets : yX3_weighSets.cls = RX3 ∧ yX3_weighSets.cls ≠ "java/lang/invoke/MethodHandle" ∧ yX3_weighSets.cls ≠ "java/lang/invoke/VarHandle" ∧ (parseMethodDescriptor yX3_weighSets.desc).map (fun d => d.parameters.length) = some 0 := by decide +kernel
/-! X3_walkFirstRow -/
def rmX3_walkFirstRow : Room := { frames := 2, cells := 0, slots := 0, locals := 44 }
def f_X3_walkFirstRow_L14 (N : Nat) (x2 : Int32) (k : Int32 → Int32 → St → Option (St)) : Nat → Int32 → Int32 → St → Option (St)
  | 0, _, _, _ => none
  | n + 1, x1, x3, st => if st 47 0 ≤ x3 then k x1 x3 st else bd1 (f_X3_mayFollow st x1 x3) fun r_4 => if b2i r_4 = 0 then f_X3_walkFirstRow_L14 N x2 k n x1 (x3 + 1) st else bd1 (f_X3_costThrough st x1 x3) fun r_7 => ck 256 x1 fun j_8 => if r_7 = st 44 j_8 then sto 8 st 46 x2 x3 fun st_10 => bnd (x1 ||| ((1 : Int32) <<< (x3 &&& 31))) fun v_11 => k v_11 x3 st_10 else f_X3_walkFirstRow_L14 N x2 k n x1 (x3 + 1) st
def f_X3_walkFirstRow_L4 (N : Nat) (k : Int32 → Int32 → St → Option (St)) : Nat → Int32 → Int32 → St → Option (St)
  | 0, _, _, _ => none
  | n + 1, x1, x2, st => if st 47 0 ≤ x2 then k x1 x2 st else f_X3_walkFirstRow_L14 N x2 (fun a_12 a_13 st_14 => f_X3_walkFirstRow_L4 N k n a_12 (x2 + 1) st_14) N x1 0 st
def f_X3_walkFirstRow (N : Nat) (st : St) : Option (St) := f_X3_walkFirstRow_L4 N (fun a_15 a_16 st_17 => some st_17) N 0 0 st
set_option maxHeartbeats 4000000 in
set_option maxRecDepth 100000 in
theorem wl_X3_walkFirstRow_L14 {p : Program} {l : Launch} {e : Env} {s : State} {m : MethodId} {args : Array Value} {below : List Frame} {meth : Method} {c : Code} {Q : State → Prop} {A : Nat → Prop} {g : GP} {Y : va_W} {ad : Nat → Nat} {st' : St} (C : Cx p s m args c cX3_walkFirstRow 4 wsX3_walkFirstRow RX3 g A) (hret : RetV p l e rmX3_walkFirstRow s m args below meth c Q cX3_walkFirstRow g A (wCX g Y ad st')) (N : Nat) (x2 : Int32)  (k : Int32 → Int32 → St → Option (St)) (hk : ∀ (x1 : Int32) (x3 : Int32) (st : St) (H : Heap) (locs : List Loc) (ls : Array Slot), k x1 x3 st = some st' → IW g A s.heap (wCX g Y ad st) H locs → lv_has ls 4 [(0, .ref (ad 42)), (1, .int x1), (2, .int x2), (3, .int x3)] → W p l e rmX3_walkFirstRow s m args below meth c H locs 0 0 Q (F0 m 68 ls [])) : ∀ (n : Nat) (x1 : Int32) (x3 : Int32) (st : St) (H : Heap) (locs : List Loc) (ls : Array Slot), f_X3_walkFirstRow_L14 N x2 k n x1 x3 st = some st' → IW g A s.heap (wCX g Y ad st) H locs → lv_has ls 4 [(0, .ref (ad 42)), (1, .int x1), (2, .int x2), (3, .int x3)] → W p l e rmX3_walkFirstRow s m args below meth c H locs 0 0 Q (F0 m 14 ls []) := by
  obtain ⟨hx, hb, hml, hown, hts⟩ := id C.1
  have hinRX3 : ∀ w ∈ u_ws RX3 TX3 8, w ∈ wsX3_walkFirstRow := by decide +kernel
  have lk46 := hts (.fieldLink RX3 46 "GraveRows$RowSearch" "size" "I") (by decide +kernel)
  have lk24 := hts (.fieldLink RX3 24 "GraveRows$RowSearch" "costBehind" "[I") (by decide +kernel)
  have lk30 := hts (.fieldLink RX3 30 "GraveRows$RowSearch" "row" "[I") (by decide +kernel)
  intro n
  induction n with
  | zero =>
    intro x1 x3 st H locs ls h hI hl
    rw [f_X3_walkFirstRow_L14] at h
    cases h
  | succ n ih =>
    intro x1 x3 st H locs ls h hI hl
    rw [f_X3_walkFirstRow_L14] at h
    refine lv_iload_n hx hb dX3_walkFirstRow_14 rfl (lv_at hl 3 rfl) ?_
    refine lv_aload_n hx hb dX3_walkFirstRow_15 rfl (lv_at hl 0 rfl) ?_
    refine w_get (v := .int (st 47 0)) C hinRX3 hI 42 at_R rfl 7 (by decide) lk46 rfl rfl dX3_walkFirstRow_16 ?_
    refine lv_icmp_ge (tgt := 68) hx hb dX3_walkFirstRow_19 (by decide) (fun c_2 => ?_) (fun c_2 => ?_)
    · replace h := (if_pos c_2).symm.trans h
      exact hk _ _ _ _ _ _ h hI (lv_sub hl [0, 1, 2, 3] rfl)
    · replace h := (if_neg c_2).symm.trans h
      refine lv_aload_n hx hb dX3_walkFirstRow_22 rfl (lv_at hl 0 rfl) ?_
      refine lv_iload_n hx hb dX3_walkFirstRow_23 rfl (lv_at hl 1 rfl) ?_
      refine lv_iload_n hx hb dX3_walkFirstRow_24 rfl (lv_at hl 3 rfl) ?_
      obtain ⟨r_4, hr_3, h⟩ := bd1_some h
      refine callV_I (rest := []) C hI (c_X3_mayFollow l g Y ad x1 x3 st hr_3) (cwV 2 hts gX3_walkFirstRow_X3_mayFollow rfl rfl rfl hv_X3_mayFollow ⟨Nat.le_of_ble_eq_true rfl, Nat.le_of_ble_eq_true rfl⟩) (w_recv C hI 42 at_R rfl) rfl hl.1 rfl (Nat.le_of_ble_eq_true rfl) dX3_walkFirstRow_25 (fun H locs hI => ?_)
      refine lv_if_eq (tgt := 62) hx hb dX3_walkFirstRow_28 (by decide) (fun c_5 => ?_) (fun c_5 => ?_)
      · replace h := (if_pos c_5).symm.trans h
        refine lv_iinc (v := x3 + 1) (lv' := [(3, .int (x3 + 1)), (0, .ref (ad 42)), (1, .int x1), (2, .int x2)]) hx hb dX3_walkFirstRow_62 hl (k := 3) rfl rfl (by decide) rfl (fun ls hl => ?_)
        refine lv_goto (tgt := 14) hx hb dX3_walkFirstRow_65 (by decide) ?_
        exact ih _ _ _ _ _ _ h hI (lv_sub hl [1, 2, 3, 0] rfl)
      · replace h := (if_neg c_5).symm.trans h
        refine lv_aload_n hx hb dX3_walkFirstRow_31 rfl (lv_at hl 0 rfl) ?_
        refine lv_iload_n hx hb dX3_walkFirstRow_32 rfl (lv_at hl 1 rfl) ?_
        refine lv_iload_n hx hb dX3_walkFirstRow_33 rfl (lv_at hl 3 rfl) ?_
        obtain ⟨r_7, hr_6, h⟩ := bd1_some h
        refine callV_I (rest := []) C hI (c_X3_costThrough l g Y ad x1 x3 st hr_6) (cwV 2 hts gX3_walkFirstRow_X3_costThrough rfl rfl rfl hv_X3_costThrough ⟨Nat.le_of_ble_eq_true rfl, Nat.le_of_ble_eq_true rfl⟩) (w_recv C hI 42 at_R rfl) rfl hl.1 rfl (Nat.le_of_ble_eq_true rfl) dX3_walkFirstRow_34 (fun H locs hI => ?_)
        refine lv_aload_n hx hb dX3_walkFirstRow_37 rfl (lv_at hl 0 rfl) ?_
        refine w_get (v := .ref (ad 47)) C hinRX3 hI 42 at_R rfl 4 (by decide) lk24 rfl rfl dX3_walkFirstRow_38 ?_
        refine lv_iload_n hx hb dX3_walkFirstRow_41 rfl (lv_at hl 1 rfl) ?_
        refine w_ld C hI 47 ar_47 h dX3_walkFirstRow_42 (fun j_8 hj_8 h => ?_)
        refine lv_icmp_ne (tgt := 62) hx hb dX3_walkFirstRow_43 (by decide) (fun c_9 => ?_) (fun c_9 => ?_)
        · replace h := (if_neg c_9).symm.trans h
          refine lv_iinc (v := x3 + 1) (lv' := [(3, .int (x3 + 1)), (0, .ref (ad 42)), (1, .int x1), (2, .int x2)]) hx hb dX3_walkFirstRow_62 hl (k := 3) rfl rfl (by decide) rfl (fun ls hl => ?_)
          refine lv_goto (tgt := 14) hx hb dX3_walkFirstRow_65 (by decide) ?_
          exact ih _ _ _ _ _ _ h hI (lv_sub hl [1, 2, 3, 0] rfl)
        · replace h := (if_pos c_9).symm.trans h
          refine lv_aload_n hx hb dX3_walkFirstRow_46 rfl (lv_at hl 0 rfl) ?_
          refine w_get (v := .ref (ad 49)) C hinRX3 hI 42 at_R rfl 6 (by decide) lk30 rfl rfl dX3_walkFirstRow_47 ?_
          refine lv_iload_n hx hb dX3_walkFirstRow_50 rfl (lv_at hl 2 rfl) ?_
          refine lv_iload_n hx hb dX3_walkFirstRow_51 rfl (lv_at hl 3 rfl) ?_
          refine w_st C hI 49 ar_49 sa_49 h dX3_walkFirstRow_52 (fun st_10 H locs h hI => ?_)
          refine lv_iload_n hx hb dX3_walkFirstRow_53 rfl (lv_at hl 1 rfl) ?_
          refine lv_iconst (v := 1) hx hb dX3_walkFirstRow_54 (by decide) ?_
          refine lv_iload_n hx hb dX3_walkFirstRow_55 rfl (lv_at hl 3 rfl) ?_
          refine lv_ishl hx hb dX3_walkFirstRow_56 ?_
          refine lv_ior hx hb dX3_walkFirstRow_57 ?_
          refine gen_i h (fun v_11 h => ?_)
          refine lv_istore_n (lv' := [(1, .int v_11), (0, .ref (ad 42)), (2, .int x2), (3, .int x3)]) hx hb dX3_walkFirstRow_58 rfl hl (by decide) rfl (fun ls hl => ?_)
          refine lv_goto (tgt := 68) hx hb dX3_walkFirstRow_59 (by decide) ?_
          exact hk _ _ _ _ _ _ h hI (lv_sub hl [1, 0, 2, 3] rfl)
set_option maxHeartbeats 4000000 in
set_option maxRecDepth 100000 in
theorem wl_X3_walkFirstRow_L4 {p : Program} {l : Launch} {e : Env} {s : State} {m : MethodId} {args : Array Value} {below : List Frame} {meth : Method} {c : Code} {Q : State → Prop} {A : Nat → Prop} {g : GP} {Y : va_W} {ad : Nat → Nat} {st' : St} (C : Cx p s m args c cX3_walkFirstRow 4 wsX3_walkFirstRow RX3 g A) (hret : RetV p l e rmX3_walkFirstRow s m args below meth c Q cX3_walkFirstRow g A (wCX g Y ad st')) (N : Nat)  (k : Int32 → Int32 → St → Option (St)) (hk : ∀ (x1 : Int32) (x2 : Int32) (st : St) (H : Heap) (locs : List Loc) (ls : Array Slot), k x1 x2 st = some st' → IW g A s.heap (wCX g Y ad st) H locs → lv_has ls 4 [(0, .ref (ad 42)), (1, .int x1), (2, .int x2)] → W p l e rmX3_walkFirstRow s m args below meth c H locs 0 0 Q (F0 m 74 ls [])) : ∀ (n : Nat) (x1 : Int32) (x2 : Int32) (st : St) (H : Heap) (locs : List Loc) (ls : Array Slot), f_X3_walkFirstRow_L4 N k n x1 x2 st = some st' → IW g A s.heap (wCX g Y ad st) H locs → lv_has ls 4 [(0, .ref (ad 42)), (1, .int x1), (2, .int x2)] → W p l e rmX3_walkFirstRow s m args below meth c H locs 0 0 Q (F0 m 4 ls []) := by
  obtain ⟨hx, hb, hml, hown, hts⟩ := id C.1
  have hinRX3 : ∀ w ∈ u_ws RX3 TX3 8, w ∈ wsX3_walkFirstRow := by decide +kernel
  have lk46 := hts (.fieldLink RX3 46 "GraveRows$RowSearch" "size" "I") (by decide +kernel)
  intro n
  induction n with
  | zero =>
    intro x1 x2 st H locs ls h hI hl
    rw [f_X3_walkFirstRow_L4] at h
    cases h
  | succ n ih =>
    intro x1 x2 st H locs ls h hI hl
    rw [f_X3_walkFirstRow_L4] at h
    refine lv_iload_n hx hb dX3_walkFirstRow_4 rfl (lv_at hl 2 rfl) ?_
    refine lv_aload_n hx hb dX3_walkFirstRow_5 rfl (lv_at hl 0 rfl) ?_
    refine w_get (v := .int (st 47 0)) C hinRX3 hI 42 at_R rfl 7 (by decide) lk46 rfl rfl dX3_walkFirstRow_6 ?_
    refine lv_icmp_ge (tgt := 74) hx hb dX3_walkFirstRow_9 (by decide) (fun c_1 => ?_) (fun c_1 => ?_)
    · replace h := (if_pos c_1).symm.trans h
      exact hk _ _ _ _ _ _ h hI (lv_sub hl [0, 1, 2] rfl)
    · replace h := (if_neg c_1).symm.trans h
      refine lv_iconst (v := 0) hx hb dX3_walkFirstRow_12 (by decide) ?_
      refine lv_istore_n (lv' := [(3, .int 0), (0, .ref (ad 42)), (1, .int x1), (2, .int x2)]) hx hb dX3_walkFirstRow_13 rfl hl (by decide) rfl (fun ls hl => ?_)
      refine wl_X3_walkFirstRow_L14 C hret N x2 _ (fun a_12 a_13 st_14 H locs ls h hI hl => ?_) N x1 0 st H locs ls h hI (lv_sub hl [1, 2, 3, 0] rfl)
      refine lv_iinc (v := x2 + 1) (lv' := [(2, .int (x2 + 1)), (0, .ref (ad 42)), (1, .int a_12), (3, .int a_13)]) hx hb dX3_walkFirstRow_68 hl (k := 2) rfl rfl (by decide) rfl (fun ls hl => ?_)
      refine lv_goto (tgt := 4) hx hb dX3_walkFirstRow_71 (by decide) ?_
      exact ih _ _ _ _ _ _ h hI (lv_sub hl [1, 2, 0] rfl)
set_option maxHeartbeats 4000000 in
set_option maxRecDepth 100000 in
theorem c_X3_walkFirstRow (l : Launch) (g : GP) (Y : va_W) (ad : Nat → Nat) (N : Nat)  (st : St) {st' : St} (h : f_X3_walkFirstRow N st = some st') : MetV l yX3_walkFirstRow wsX3_walkFirstRow rmX3_walkFirstRow g (wCX g Y ad) [.ref (ad 42)] st st' := by
  refine metV_of (cc := cX3_walkFirstRow) (nL := 4) (by decide) rfl (Nat.le_of_ble_eq_true rfl) ?_
  intro p e s m below meth c Q A C hret H locs hI ls hl
  have C : Cx p s m _ c cX3_walkFirstRow 4 wsX3_walkFirstRow RX3 g A := C
  obtain ⟨hx, hb, hml, hown, hts⟩ := id C.1
  have hl : lv_has ls 4 [(0, .ref (ad 42))] := hl
  rw [f_X3_walkFirstRow] at h
  refine lv_iconst (v := 0) hx hb dX3_walkFirstRow_0 (by decide) ?_
  refine lv_istore_n (lv' := [(1, .int 0), (0, .ref (ad 42))]) hx hb dX3_walkFirstRow_1 rfl hl (by decide) rfl (fun ls hl => ?_)
  refine lv_iconst (v := 0) hx hb dX3_walkFirstRow_2 (by decide) ?_
  refine lv_istore_n (lv' := [(2, .int 0), (1, .int 0), (0, .ref (ad 42))]) hx hb dX3_walkFirstRow_3 rfl hl (by decide) rfl (fun ls hl => ?_)
  refine wl_X3_walkFirstRow_L4 C hret N _ (fun a_15 a_16 st_17 H locs ls h hI hl => ?_) N 0 0 st H locs ls h hI (lv_sub hl [2, 1, 0] rfl)
  obtain rfl := ret1 h
  exact hret H locs _ ls hI dX3_walkFirstRow_74
theorem hv_X3_walkFirstRow : yX3_walkFirstRow.cls = RX3 ∧ yX3_walkFirstRow.cls ≠ "java/lang/invoke/MethodHandle" ∧ yX3_walkFirstRow.cls ≠ "java/lang/invoke/VarHandle" ∧ (parseMethodDescriptor yX3_walkFirstRow.desc).map (fun d => d.parameters.length) = some 0 := by decide +kernel
/-! X3_solve -/
def rmX3_solve : Room := { frames := 3, cells := 0, slots := 0, locals := 70 }
def f_X3_solve (N : Nat) (st : St) (x2 : Int32) : Option (St) := bd2 (f_X3_takeIn N st x2) fun r_2 st_3 => if b2i r_2 = 0 then some st_3 else bd1 (f_X3_joinGoods N st_3) fun st_6 => bd1 (f_X3_weighSets N st_6) fun st_8 => bd1 (f_X3_walkFirstRow N st_8) fun st_10 => some st_10
set_option maxHeartbeats 4000000 in
set_option maxRecDepth 100000 in
theorem c_X3_solve (l : Launch) (g : GP) (Y : va_W) (ad : Nat → Nat) (N : Nat) (x2 : Int32)  (st : St) {st' : St} (h : f_X3_solve N st x2 = some st') : MetV l yX3_solve wsX3_solve rmX3_solve g (wCX g Y ad) [.ref (ad 42), .ref (ad 1), .int x2] st st' := by
  refine metV_of (cc := cX3_solve) (nL := 3) (by decide) rfl (Nat.le_of_ble_eq_true rfl) ?_
  intro p e s m below meth c Q A C hret H locs hI ls hl
  have C : Cx p s m _ c cX3_solve 3 wsX3_solve RX3 g A := C
  obtain ⟨hx, hb, hml, hown, hts⟩ := id C.1
  have hl : lv_has ls 3 [(0, .ref (ad 42)), (1, .ref (ad 1)), (2, .int x2)] := hl
  rw [f_X3_solve] at h
  refine lv_aload_n hx hb dX3_solve_0 rfl (lv_at hl 0 rfl) ?_
  refine lv_aload_n hx hb dX3_solve_1 rfl (lv_at hl 1 rfl) ?_
  refine lv_iload_n hx hb dX3_solve_2 rfl (lv_at hl 2 rfl) ?_
  obtain ⟨r_2, st_3, hr_1, h⟩ := bd2_some h
  refine callV_I (rest := []) C hI (c_X3_takeIn l g Y ad N x2 st hr_1) (cwV 2 hts gX3_solve_X3_takeIn rfl rfl rfl hv_X3_takeIn ⟨Nat.le_of_ble_eq_true rfl, Nat.le_of_ble_eq_true rfl⟩) (w_recv C hI 42 at_R rfl) rfl hl.1 rfl (Nat.le_of_ble_eq_true rfl) dX3_solve_3 (fun H locs hI => ?_)
  refine lv_if_ne (tgt := 10) hx hb dX3_solve_6 (by decide) (fun c_4 => ?_) (fun c_4 => ?_)
  · replace h := (if_neg c_4).symm.trans h
    refine lv_aload_n hx hb dX3_solve_10 rfl (lv_at hl 0 rfl) ?_
    obtain ⟨st_6, hr_5, h⟩ := bd1_some h
    refine callV_V (rest := []) C hI (c_X3_joinGoods l g Y ad N st_3 hr_5) (cwV 0 hts gX3_solve_X3_joinGoods rfl rfl rfl hv_X3_joinGoods ⟨Nat.le_of_ble_eq_true rfl, Nat.le_of_ble_eq_true rfl⟩) (w_recv C hI 42 at_R rfl) rfl hl.1 rfl (Nat.le_of_ble_eq_true rfl) dX3_solve_11 (fun H locs hI => ?_)
    refine lv_aload_n hx hb dX3_solve_14 rfl (lv_at hl 0 rfl) ?_
    obtain ⟨st_8, hr_7, h⟩ := bd1_some h
    refine callV_V (rest := []) C hI (c_X3_weighSets l g Y ad N st_6 hr_7) (cwV 0 hts gX3_solve_X3_weighSets rfl rfl rfl hv_X3_weighSets ⟨Nat.le_of_ble_eq_true rfl, Nat.le_of_ble_eq_true rfl⟩) (w_recv C hI 42 at_R rfl) rfl hl.1 rfl (Nat.le_of_ble_eq_true rfl) dX3_solve_15 (fun H locs hI => ?_)
    refine lv_aload_n hx hb dX3_solve_18 rfl (lv_at hl 0 rfl) ?_
    obtain ⟨st_10, hr_9, h⟩ := bd1_some h
    refine callV_V (rest := []) C hI (c_X3_walkFirstRow l g Y ad N st_8 hr_9) (cwV 0 hts gX3_solve_X3_walkFirstRow rfl rfl rfl hv_X3_walkFirstRow ⟨Nat.le_of_ble_eq_true rfl, Nat.le_of_ble_eq_true rfl⟩) (w_recv C hI 42 at_R rfl) rfl hl.1 rfl (Nat.le_of_ble_eq_true rfl) dX3_solve_19 (fun H locs hI => ?_)
    obtain rfl := ret1 h
    exact hret H locs _ ls hI dX3_solve_22
  · replace h := (if_pos c_4).symm.trans h
    obtain rfl := ret1 h
    exact hret H locs _ ls hI dX3_solve_9
theorem hv_X3_solve : yX3_solve.cls = RX3 ∧ yX3_solve.cls ≠ "java/lang/invoke/MethodHandle" ∧ yX3_solve.cls ≠ "java/lang/invoke/VarHandle" ∧ (parseMethodDescriptor yX3_solve.desc).map (fun d => d.parameters.length) = some 2 := by decide +kernel
/-! X3_leastCost -/
def rmX3_leastCost : Room := { frames := 0, cells := 0, slots := 0, locals := 0 }
def f_X3_leastCost (st : St) : Int32 := st 44 0
set_option maxHeartbeats 4000000 in
set_option maxRecDepth 100000 in
theorem c_X3_leastCost (l : Launch) (g : GP) (Y : va_W) (ad : Nat → Nat)  (st : St) : MetI l yX3_leastCost wsX3_leastCost rmX3_leastCost g (wCX g Y ad) [.ref (ad 42)] st (f_X3_leastCost st) st := by
  refine metI_of (cc := cX3_leastCost) (nL := 1) (ty := .int) (by decide) rfl (Nat.le_of_ble_eq_true rfl) rfl ?_
  intro p e s m below meth c Q A C hret H locs hI ls hl
  have C : Cx p s m _ c cX3_leastCost 1 wsX3_leastCost RX3 g A := C
  obtain ⟨hx, hb, hml, hown, hts⟩ := id C.1
  have hl : lv_has ls 1 [(0, .ref (ad 42))] := hl
  have hinRX3 : ∀ w ∈ u_ws RX3 TX3 8, w ∈ wsX3_leastCost := by decide +kernel
  have lk24 := hts (.fieldLink RX3 24 "GraveRows$RowSearch" "costBehind" "[I") (by decide +kernel)
  generalize hgen : f_X3_leastCost st = r at hret
  have h := hgen
  rw [f_X3_leastCost] at h
  refine lv_aload_n hx hb dX3_leastCost_0 rfl (lv_at hl 0 rfl) ?_
  refine w_get (v := .ref (ad 47)) C hinRX3 hI 42 at_R rfl 4 (by decide) lk24 rfl rfl dX3_leastCost_1 ?_
  refine lv_iconst (v := 0) hx hb dX3_leastCost_4 (by decide) ?_
  refine w_ldK C hI 47 ar_47 0 (by decide) (by decide) dX3_leastCost_5 ?_
  subst h
  exact hret H locs _ ls hI dX3_leastCost_6
theorem hv_X3_leastCost : yX3_leastCost.cls = RX3 ∧ yX3_leastCost.cls ≠ "java/lang/invoke/MethodHandle" ∧ yX3_leastCost.cls ≠ "java/lang/invoke/VarHandle" ∧ (parseMethodDescriptor yX3_leastCost.desc).map (fun d => d.parameters.length) = some 0 := by decide +kernel
/-! X3_leastWays -/
def rmX3_leastWays : Room := { frames := 0, cells := 0, slots := 0, locals := 0 }
def f_X3_leastWays (st : St) : Int32 := st 45 0
set_option maxHeartbeats 4000000 in
set_option maxRecDepth 100000 in
theorem c_X3_leastWays (l : Launch) (g : GP) (Y : va_W) (ad : Nat → Nat)  (st : St) : MetI l yX3_leastWays wsX3_leastWays rmX3_leastWays g (wCX g Y ad) [.ref (ad 42)] st (f_X3_leastWays st) st := by
  refine metI_of (cc := cX3_leastWays) (nL := 1) (ty := .int) (by decide) rfl (Nat.le_of_ble_eq_true rfl) rfl ?_
  intro p e s m below meth c Q A C hret H locs hI ls hl
  have C : Cx p s m _ c cX3_leastWays 1 wsX3_leastWays RX3 g A := C
  obtain ⟨hx, hb, hml, hown, hts⟩ := id C.1
  have hl : lv_has ls 1 [(0, .ref (ad 42))] := hl
  have hinRX3 : ∀ w ∈ u_ws RX3 TX3 8, w ∈ wsX3_leastWays := by decide +kernel
  have lk27 := hts (.fieldLink RX3 27 "GraveRows$RowSearch" "waysBehind" "[I") (by decide +kernel)
  generalize hgen : f_X3_leastWays st = r at hret
  have h := hgen
  rw [f_X3_leastWays] at h
  refine lv_aload_n hx hb dX3_leastWays_0 rfl (lv_at hl 0 rfl) ?_
  refine w_get (v := .ref (ad 48)) C hinRX3 hI 42 at_R rfl 5 (by decide) lk27 rfl rfl dX3_leastWays_1 ?_
  refine lv_iconst (v := 0) hx hb dX3_leastWays_4 (by decide) ?_
  refine w_ldK C hI 48 ar_48 0 (by decide) (by decide) dX3_leastWays_5 ?_
  subst h
  exact hret H locs _ ls hI dX3_leastWays_6
theorem hv_X3_leastWays : yX3_leastWays.cls = RX3 ∧ yX3_leastWays.cls ≠ "java/lang/invoke/MethodHandle" ∧ yX3_leastWays.cls ≠ "java/lang/invoke/VarHandle" ∧ (parseMethodDescriptor yX3_leastWays.desc).map (fun d => d.parameters.length) = some 0 := by decide +kernel
/-! X3_firstPlaceOf -/
def rmX3_firstPlaceOf : Room := { frames := 1, cells := 0, slots := 0, locals := 21 }
def f_X3_firstPlaceOf_L2 (N : Nat) (x1 : Int32) (st : St) (k : Int32 → Option (Int32)) : Nat → Int32 → Option (Int32)
  | 0, _ => none
  | n + 1, x2 => if st 47 0 ≤ x2 then k x2 else ck 8 x2 fun j_2 => ck 8 (st 46 j_2) fun j_3 => bnd (f_X5_isIn (st 40 j_3) x1) fun r_4 => if b2i r_4 = 0 then f_X3_firstPlaceOf_L2 N x1 st k n (x2 + 1) else some x2
def f_X3_firstPlaceOf (N : Nat) (st : St) (x1 : Int32) : Option (Int32) := f_X3_firstPlaceOf_L2 N x1 st (fun a_6 => some (-1 : Int32)) N 0
set_option maxHeartbeats 4000000 in
set_option maxRecDepth 100000 in
theorem wl_X3_firstPlaceOf_L2 {p : Program} {l : Launch} {e : Env} {s : State} {m : MethodId} {args : Array Value} {below : List Frame} {meth : Method} {c : Code} {Q : State → Prop} {A : Nat → Prop} {g : GP} {Y : va_W} {ad : Nat → Nat} {r : Int32}  (C : Cx p s m args c cX3_firstPlaceOf 3 wsX3_firstPlaceOf RX3 g A) (st : St) (hret : RetI p l e rmX3_firstPlaceOf s m args below meth c Q cX3_firstPlaceOf g A (wCX g Y ad st) (r)) (N : Nat) (x1 : Int32)  (k : Int32 → Option (Int32)) (hk : ∀ (x2 : Int32) (H : Heap) (locs : List Loc) (ls : Array Slot), k x2 = some r → IW g A s.heap (wCX g Y ad st) H locs → lv_has ls 3 [(0, .ref (ad 42)), (1, .int x1), (2, .int x2)] → W p l e rmX3_firstPlaceOf s m args below meth c H locs 0 0 Q (F0 m 36 ls [])) : ∀ (n : Nat) (x2 : Int32) (H : Heap) (locs : List Loc) (ls : Array Slot), f_X3_firstPlaceOf_L2 N x1 st k n x2 = some r → IW g A s.heap (wCX g Y ad st) H locs → lv_has ls 3 [(0, .ref (ad 42)), (1, .int x1), (2, .int x2)] → W p l e rmX3_firstPlaceOf s m args below meth c H locs 0 0 Q (F0 m 2 ls []) := by
  obtain ⟨hx, hb, hml, hown, hts⟩ := id C.1
  have hinRX3 : ∀ w ∈ u_ws RX3 TX3 8, w ∈ wsX3_firstPlaceOf := by decide +kernel
  have lk46 := hts (.fieldLink RX3 46 "GraveRows$RowSearch" "size" "I") (by decide +kernel)
  have lk9 := hts (.fieldLink RX3 9 "GraveRows$RowSearch" "goods" "[I") (by decide +kernel)
  have lk30 := hts (.fieldLink RX3 30 "GraveRows$RowSearch" "row" "[I") (by decide +kernel)
  have iniRX5 := hts (.initialized RX5) (by decide +kernel)
  have staX5_isIn := hts (.static yX5_isIn) (by decide +kernel)
  intro n
  induction n with
  | zero =>
    intro x2 H locs ls h hI hl
    rw [f_X3_firstPlaceOf_L2] at h
    cases h
  | succ n ih =>
    intro x2 H locs ls h hI hl
    rw [f_X3_firstPlaceOf_L2] at h
    refine lv_iload_n hx hb dX3_firstPlaceOf_2 rfl (lv_at hl 2 rfl) ?_
    refine lv_aload_n hx hb dX3_firstPlaceOf_3 rfl (lv_at hl 0 rfl) ?_
    refine w_get (v := .int (st 47 0)) C hinRX3 hI 42 at_R rfl 7 (by decide) lk46 rfl rfl dX3_firstPlaceOf_4 ?_
    refine lv_icmp_ge (tgt := 36) hx hb dX3_firstPlaceOf_7 (by decide) (fun c_1 => ?_) (fun c_1 => ?_)
    · replace h := (if_pos c_1).symm.trans h
      exact hk _ _ _ _ h hI (lv_sub hl [0, 1, 2] rfl)
    · replace h := (if_neg c_1).symm.trans h
      refine lv_aload_n hx hb dX3_firstPlaceOf_10 rfl (lv_at hl 0 rfl) ?_
      refine w_get (v := .ref (ad 43)) C hinRX3 hI 42 at_R rfl 0 (by decide) lk9 rfl rfl dX3_firstPlaceOf_11 ?_
      refine lv_aload_n hx hb dX3_firstPlaceOf_14 rfl (lv_at hl 0 rfl) ?_
      refine w_get (v := .ref (ad 49)) C hinRX3 hI 42 at_R rfl 6 (by decide) lk30 rfl rfl dX3_firstPlaceOf_15 ?_
      refine lv_iload_n hx hb dX3_firstPlaceOf_18 rfl (lv_at hl 2 rfl) ?_
      refine w_ld C hI 49 ar_49 h dX3_firstPlaceOf_19 (fun j_2 hj_2 h => ?_)
      refine w_ld C hI 43 ar_43 h dX3_firstPlaceOf_20 (fun j_3 hj_3 h => ?_)
      refine lv_iload_n hx hb dX3_firstPlaceOf_21 rfl (lv_at hl 1 rfl) ?_
      refine callN_S (rest := []) C.1 (c_X5_isIn l (st 40 j_3) x1) ⟨va_cnB 2 hts gX3_firstPlaceOf_X5_isIn_n84 rfl rfl rfl C.2.2.2.1 iniRX5 hd_X5_isIn ⟨Nat.le_of_ble_eq_true rfl, Nat.le_of_ble_eq_true rfl⟩, staX5_isIn, trivial⟩ rfl hl.1 rfl (Nat.le_of_ble_eq_true rfl) dX3_firstPlaceOf_22 ?_
      refine gen_b h (fun r_4 h => ?_)
      refine lv_if_eq (tgt := 30) hx hb dX3_firstPlaceOf_25 (by decide) (fun c_5 => ?_) (fun c_5 => ?_)
      · replace h := (if_pos c_5).symm.trans h
        refine lv_iinc (v := x2 + 1) (lv' := [(2, .int (x2 + 1)), (0, .ref (ad 42)), (1, .int x1)]) hx hb dX3_firstPlaceOf_30 hl (k := 2) rfl rfl (by decide) rfl (fun ls hl => ?_)
        refine lv_goto (tgt := 2) hx hb dX3_firstPlaceOf_33 (by decide) ?_
        exact ih _ _ _ _ h hI (lv_sub hl [1, 2, 0] rfl)
      · replace h := (if_neg c_5).symm.trans h
        refine lv_iload_n hx hb dX3_firstPlaceOf_28 rfl (lv_at hl 2 rfl) ?_
        obtain rfl := ret1 h
        exact hret H locs _ ls hI dX3_firstPlaceOf_29
set_option maxHeartbeats 4000000 in
set_option maxRecDepth 100000 in
theorem c_X3_firstPlaceOf (l : Launch) (g : GP) (Y : va_W) (ad : Nat → Nat) (N : Nat) (x1 : Int32)  (st : St) {r : Int32}  (h : f_X3_firstPlaceOf N st x1 = some r) : MetI l yX3_firstPlaceOf wsX3_firstPlaceOf rmX3_firstPlaceOf g (wCX g Y ad) [.ref (ad 42), .int x1] st (r) st := by
  refine metI_of (cc := cX3_firstPlaceOf) (nL := 3) (ty := .int) (by decide) rfl (Nat.le_of_ble_eq_true rfl) rfl ?_
  intro p e s m below meth c Q A C hret H locs hI ls hl
  have C : Cx p s m _ c cX3_firstPlaceOf 3 wsX3_firstPlaceOf RX3 g A := C
  obtain ⟨hx, hb, hml, hown, hts⟩ := id C.1
  have hl : lv_has ls 3 [(0, .ref (ad 42)), (1, .int x1)] := hl
  rw [f_X3_firstPlaceOf] at h
  refine lv_iconst (v := 0) hx hb dX3_firstPlaceOf_0 (by decide) ?_
  refine lv_istore_n (lv' := [(2, .int 0), (0, .ref (ad 42)), (1, .int x1)]) hx hb dX3_firstPlaceOf_1 rfl hl (by decide) rfl (fun ls hl => ?_)
  refine wl_X3_firstPlaceOf_L2 C st hret N x1 _ (fun a_6 H locs ls h hI hl => ?_) N 0 H locs ls h hI (lv_sub hl [1, 2, 0] rfl)
  refine lv_iconst (v := (-1)) hx hb dX3_firstPlaceOf_36 (by decide) ?_
  obtain rfl := ret1 h
  exact hret H locs _ ls hI dX3_firstPlaceOf_37
theorem hv_X3_firstPlaceOf : yX3_firstPlaceOf.cls = RX3 ∧ yX3_firstPlaceOf.cls ≠ "java/lang/invoke/MethodHandle" ∧ yX3_firstPlaceOf.cls ≠ "java/lang/invoke/VarHandle" ∧ (parseMethodDescriptor yX3_firstPlaceOf.desc).map (fun d => d.parameters.length) = some 1 := by decide +kernel
/-! X3_lastPlaceOf -/
def rmX3_lastPlaceOf : Room := { frames := 1, cells := 0, slots := 0, locals := 21 }
def f_X3_lastPlaceOf_L7 (N : Nat) (x1 : Int32) (st : St) (k : Int32 → Option (Int32)) : Nat → Int32 → Option (Int32)
  | 0, _ => none
  | n + 1, x2 => if x2 < 0 then k x2 else ck 8 x2 fun j_3 => ck 8 (st 46 j_3) fun j_4 => bnd (f_X5_isIn (st 40 j_4) x1) fun r_5 => if b2i r_5 = 0 then f_X3_lastPlaceOf_L7 N x1 st k n (x2 + (-1)) else some x2
def f_X3_lastPlaceOf (N : Nat) (st : St) (x1 : Int32) : Option (Int32) := bnd ((st 47 0) - 1) fun v_1 => f_X3_lastPlaceOf_L7 N x1 st (fun a_7 => some (-1 : Int32)) N v_1
set_option maxHeartbeats 4000000 in
set_option maxRecDepth 100000 in
theorem wl_X3_lastPlaceOf_L7 {p : Program} {l : Launch} {e : Env} {s : State} {m : MethodId} {args : Array Value} {below : List Frame} {meth : Method} {c : Code} {Q : State → Prop} {A : Nat → Prop} {g : GP} {Y : va_W} {ad : Nat → Nat} {r : Int32}  (C : Cx p s m args c cX3_lastPlaceOf 3 wsX3_lastPlaceOf RX3 g A) (st : St) (hret : RetI p l e rmX3_lastPlaceOf s m args below meth c Q cX3_lastPlaceOf g A (wCX g Y ad st) (r)) (N : Nat) (x1 : Int32)  (k : Int32 → Option (Int32)) (hk : ∀ (x2 : Int32) (H : Heap) (locs : List Loc) (ls : Array Slot), k x2 = some r → IW g A s.heap (wCX g Y ad st) H locs → lv_has ls 3 [(0, .ref (ad 42)), (1, .int x1), (2, .int x2)] → W p l e rmX3_lastPlaceOf s m args below meth c H locs 0 0 Q (F0 m 37 ls [])) : ∀ (n : Nat) (x2 : Int32) (H : Heap) (locs : List Loc) (ls : Array Slot), f_X3_lastPlaceOf_L7 N x1 st k n x2 = some r → IW g A s.heap (wCX g Y ad st) H locs → lv_has ls 3 [(0, .ref (ad 42)), (1, .int x1), (2, .int x2)] → W p l e rmX3_lastPlaceOf s m args below meth c H locs 0 0 Q (F0 m 7 ls []) := by
  obtain ⟨hx, hb, hml, hown, hts⟩ := id C.1
  have hinRX3 : ∀ w ∈ u_ws RX3 TX3 8, w ∈ wsX3_lastPlaceOf := by decide +kernel
  have lk9 := hts (.fieldLink RX3 9 "GraveRows$RowSearch" "goods" "[I") (by decide +kernel)
  have lk30 := hts (.fieldLink RX3 30 "GraveRows$RowSearch" "row" "[I") (by decide +kernel)
  have iniRX5 := hts (.initialized RX5) (by decide +kernel)
  have staX5_isIn := hts (.static yX5_isIn) (by decide +kernel)
  intro n
  induction n with
  | zero =>
    intro x2 H locs ls h hI hl
    rw [f_X3_lastPlaceOf_L7] at h
    cases h
  | succ n ih =>
    intro x2 H locs ls h hI hl
    rw [f_X3_lastPlaceOf_L7] at h
    refine lv_iload_n hx hb dX3_lastPlaceOf_7 rfl (lv_at hl 2 rfl) ?_
    refine lv_if_lt (tgt := 37) hx hb dX3_lastPlaceOf_8 (by decide) (fun c_2 => ?_) (fun c_2 => ?_)
    · replace h := (if_pos c_2).symm.trans h
      exact hk _ _ _ _ h hI (lv_sub hl [0, 1, 2] rfl)
    · replace h := (if_neg c_2).symm.trans h
      refine lv_aload_n hx hb dX3_lastPlaceOf_11 rfl (lv_at hl 0 rfl) ?_
      refine w_get (v := .ref (ad 43)) C hinRX3 hI 42 at_R rfl 0 (by decide) lk9 rfl rfl dX3_lastPlaceOf_12 ?_
      refine lv_aload_n hx hb dX3_lastPlaceOf_15 rfl (lv_at hl 0 rfl) ?_
      refine w_get (v := .ref (ad 49)) C hinRX3 hI 42 at_R rfl 6 (by decide) lk30 rfl rfl dX3_lastPlaceOf_16 ?_
      refine lv_iload_n hx hb dX3_lastPlaceOf_19 rfl (lv_at hl 2 rfl) ?_
      refine w_ld C hI 49 ar_49 h dX3_lastPlaceOf_20 (fun j_3 hj_3 h => ?_)
      refine w_ld C hI 43 ar_43 h dX3_lastPlaceOf_21 (fun j_4 hj_4 h => ?_)
      refine lv_iload_n hx hb dX3_lastPlaceOf_22 rfl (lv_at hl 1 rfl) ?_
      refine callN_S (rest := []) C.1 (c_X5_isIn l (st 40 j_4) x1) ⟨va_cnB 2 hts gX3_lastPlaceOf_X5_isIn_n84 rfl rfl rfl C.2.2.2.1 iniRX5 hd_X5_isIn ⟨Nat.le_of_ble_eq_true rfl, Nat.le_of_ble_eq_true rfl⟩, staX5_isIn, trivial⟩ rfl hl.1 rfl (Nat.le_of_ble_eq_true rfl) dX3_lastPlaceOf_23 ?_
      refine gen_b h (fun r_5 h => ?_)
      refine lv_if_eq (tgt := 31) hx hb dX3_lastPlaceOf_26 (by decide) (fun c_6 => ?_) (fun c_6 => ?_)
      · replace h := (if_pos c_6).symm.trans h
        refine lv_iinc (v := x2 + (-1)) (lv' := [(2, .int (x2 + (-1))), (0, .ref (ad 42)), (1, .int x1)]) hx hb dX3_lastPlaceOf_31 hl (k := 2) rfl rfl (by decide) rfl (fun ls hl => ?_)
        refine lv_goto (tgt := 7) hx hb dX3_lastPlaceOf_34 (by decide) ?_
        exact ih _ _ _ _ h hI (lv_sub hl [1, 2, 0] rfl)
      · replace h := (if_neg c_6).symm.trans h
        refine lv_iload_n hx hb dX3_lastPlaceOf_29 rfl (lv_at hl 2 rfl) ?_
        obtain rfl := ret1 h
        exact hret H locs _ ls hI dX3_lastPlaceOf_30
set_option maxHeartbeats 4000000 in
set_option maxRecDepth 100000 in
theorem c_X3_lastPlaceOf (l : Launch) (g : GP) (Y : va_W) (ad : Nat → Nat) (N : Nat) (x1 : Int32)  (st : St) {r : Int32}  (h : f_X3_lastPlaceOf N st x1 = some r) : MetI l yX3_lastPlaceOf wsX3_lastPlaceOf rmX3_lastPlaceOf g (wCX g Y ad) [.ref (ad 42), .int x1] st (r) st := by
  refine metI_of (cc := cX3_lastPlaceOf) (nL := 3) (ty := .int) (by decide) rfl (Nat.le_of_ble_eq_true rfl) rfl ?_
  intro p e s m below meth c Q A C hret H locs hI ls hl
  have C : Cx p s m _ c cX3_lastPlaceOf 3 wsX3_lastPlaceOf RX3 g A := C
  obtain ⟨hx, hb, hml, hown, hts⟩ := id C.1
  have hl : lv_has ls 3 [(0, .ref (ad 42)), (1, .int x1)] := hl
  have hinRX3 : ∀ w ∈ u_ws RX3 TX3 8, w ∈ wsX3_lastPlaceOf := by decide +kernel
  have lk46 := hts (.fieldLink RX3 46 "GraveRows$RowSearch" "size" "I") (by decide +kernel)
  rw [f_X3_lastPlaceOf] at h
  refine lv_aload_n hx hb dX3_lastPlaceOf_0 rfl (lv_at hl 0 rfl) ?_
  refine w_get (v := .int (st 47 0)) C hinRX3 hI 42 at_R rfl 7 (by decide) lk46 rfl rfl dX3_lastPlaceOf_1 ?_
  refine lv_iconst (v := 1) hx hb dX3_lastPlaceOf_4 (by decide) ?_
  refine lv_isub hx hb dX3_lastPlaceOf_5 ?_
  refine gen_i h (fun v_1 h => ?_)
  refine lv_istore_n (lv' := [(2, .int v_1), (0, .ref (ad 42)), (1, .int x1)]) hx hb dX3_lastPlaceOf_6 rfl hl (by decide) rfl (fun ls hl => ?_)
  refine wl_X3_lastPlaceOf_L7 C st hret N x1 _ (fun a_7 H locs ls h hI hl => ?_) N v_1 H locs ls h hI (lv_sub hl [1, 2, 0] rfl)
  refine lv_iconst (v := (-1)) hx hb dX3_lastPlaceOf_37 (by decide) ?_
  obtain rfl := ret1 h
  exact hret H locs _ ls hI dX3_lastPlaceOf_38
theorem hv_X3_lastPlaceOf : yX3_lastPlaceOf.cls = RX3 ∧ yX3_lastPlaceOf.cls ≠ "java/lang/invoke/MethodHandle" ∧ yX3_lastPlaceOf.cls ≠ "java/lang/invoke/VarHandle" ∧ (parseMethodDescriptor yX3_lastPlaceOf.desc).map (fun d => d.parameters.length) = some 1 := by decide +kernel
/-! X3_holesOf -/
def rmX3_holesOf : Room := { frames := 2, cells := 0, slots := 0, locals := 43 }
def f_X3_holesOf_L17 (N : Nat) (x1 : Int32) (x2 : Int32) (st : St) (k : Int32 → Int32 → Option (Int32)) : Nat → Int32 → Int32 → Option (Int32)
  | 0, _, _ => none
  | n + 1, x3, x4 => if x2 ≤ x4 then k x3 x4 else ck 8 x4 fun j_7 => ck 8 (st 46 j_7) fun j_8 => bnd (f_X5_isIn (st 41 j_8) x1) fun r_9 => if b2i r_9 = 0 then f_X3_holesOf_L17 N x1 x2 st k n x3 (x4 + 1) else f_X3_holesOf_L17 N x1 x2 st k n (x3 + 1) (x4 + 1)
def f_X3_holesOf (N : Nat) (st : St) (x1 : Int32) : Option (Int32) := bd1 (f_X3_lastPlaceOf N st x1) fun r_2 => bd1 (f_X3_firstPlaceOf N st x1) fun r_4 => bnd (r_4 + 1) fun v_5 => f_X3_holesOf_L17 N x1 r_2 st (fun a_11 a_12 => some a_11) N 0 v_5
set_option maxHeartbeats 4000000 in
set_option maxRecDepth 100000 in
theorem wl_X3_holesOf_L17 {p : Program} {l : Launch} {e : Env} {s : State} {m : MethodId} {args : Array Value} {below : List Frame} {meth : Method} {c : Code} {Q : State → Prop} {A : Nat → Prop} {g : GP} {Y : va_W} {ad : Nat → Nat} {r : Int32}  (C : Cx p s m args c cX3_holesOf 5 wsX3_holesOf RX3 g A) (st : St) (hret : RetI p l e rmX3_holesOf s m args below meth c Q cX3_holesOf g A (wCX g Y ad st) (r)) (N : Nat) (x1 : Int32) (x2 : Int32)  (k : Int32 → Int32 → Option (Int32)) (hk : ∀ (x3 : Int32) (x4 : Int32) (H : Heap) (locs : List Loc) (ls : Array Slot), k x3 x4 = some r → IW g A s.heap (wCX g Y ad st) H locs → lv_has ls 5 [(0, .ref (ad 42)), (1, .int x1), (2, .int x2), (3, .int x3), (4, .int x4)] → W p l e rmX3_holesOf s m args below meth c H locs 0 0 Q (F0 m 51 ls [])) : ∀ (n : Nat) (x3 : Int32) (x4 : Int32) (H : Heap) (locs : List Loc) (ls : Array Slot), f_X3_holesOf_L17 N x1 x2 st k n x3 x4 = some r → IW g A s.heap (wCX g Y ad st) H locs → lv_has ls 5 [(0, .ref (ad 42)), (1, .int x1), (2, .int x2), (3, .int x3), (4, .int x4)] → W p l e rmX3_holesOf s m args below meth c H locs 0 0 Q (F0 m 17 ls []) := by
  obtain ⟨hx, hb, hml, hown, hts⟩ := id C.1
  have hinRX3 : ∀ w ∈ u_ws RX3 TX3 8, w ∈ wsX3_holesOf := by decide +kernel
  have lk15 := hts (.fieldLink RX3 15 "GraveRows$RowSearch" "lacked" "[I") (by decide +kernel)
  have lk30 := hts (.fieldLink RX3 30 "GraveRows$RowSearch" "row" "[I") (by decide +kernel)
  have iniRX5 := hts (.initialized RX5) (by decide +kernel)
  have staX5_isIn := hts (.static yX5_isIn) (by decide +kernel)
  intro n
  induction n with
  | zero =>
    intro x3 x4 H locs ls h hI hl
    rw [f_X3_holesOf_L17] at h
    cases h
  | succ n ih =>
    intro x3 x4 H locs ls h hI hl
    rw [f_X3_holesOf_L17] at h
    refine lv_iload hx hb dX3_holesOf_17 (lv_at hl 4 rfl) ?_
    refine lv_iload_n hx hb dX3_holesOf_19 rfl (lv_at hl 2 rfl) ?_
    refine lv_icmp_ge (tgt := 51) hx hb dX3_holesOf_20 (by decide) (fun c_6 => ?_) (fun c_6 => ?_)
    · replace h := (if_pos c_6).symm.trans h
      exact hk _ _ _ _ _ h hI (lv_sub hl [0, 1, 2, 3, 4] rfl)
    · replace h := (if_neg c_6).symm.trans h
      refine lv_aload_n hx hb dX3_holesOf_23 rfl (lv_at hl 0 rfl) ?_
      refine w_get (v := .ref (ad 44)) C hinRX3 hI 42 at_R rfl 1 (by decide) lk15 rfl rfl dX3_holesOf_24 ?_
      refine lv_aload_n hx hb dX3_holesOf_27 rfl (lv_at hl 0 rfl) ?_
      refine w_get (v := .ref (ad 49)) C hinRX3 hI 42 at_R rfl 6 (by decide) lk30 rfl rfl dX3_holesOf_28 ?_
      refine lv_iload hx hb dX3_holesOf_31 (lv_at hl 4 rfl) ?_
      refine w_ld C hI 49 ar_49 h dX3_holesOf_33 (fun j_7 hj_7 h => ?_)
      refine w_ld C hI 44 ar_44 h dX3_holesOf_34 (fun j_8 hj_8 h => ?_)
      refine lv_iload_n hx hb dX3_holesOf_35 rfl (lv_at hl 1 rfl) ?_
      refine callN_S (rest := []) C.1 (c_X5_isIn l (st 41 j_8) x1) ⟨va_cnB 2 hts gX3_holesOf_X5_isIn_n84 rfl rfl rfl C.2.2.2.1 iniRX5 hd_X5_isIn ⟨Nat.le_of_ble_eq_true rfl, Nat.le_of_ble_eq_true rfl⟩, staX5_isIn, trivial⟩ rfl hl.1 rfl (Nat.le_of_ble_eq_true rfl) dX3_holesOf_36 ?_
      refine gen_b h (fun r_9 h => ?_)
      refine lv_if_eq (tgt := 45) hx hb dX3_holesOf_39 (by decide) (fun c_10 => ?_) (fun c_10 => ?_)
      · replace h := (if_pos c_10).symm.trans h
        refine lv_iinc (v := x4 + 1) (lv' := [(4, .int (x4 + 1)), (0, .ref (ad 42)), (1, .int x1), (2, .int x2), (3, .int x3)]) hx hb dX3_holesOf_45 hl (k := 4) rfl rfl (by decide) rfl (fun ls hl => ?_)
        refine lv_goto (tgt := 17) hx hb dX3_holesOf_48 (by decide) ?_
        exact ih _ _ _ _ _ h hI (lv_sub hl [1, 2, 3, 4, 0] rfl)
      · replace h := (if_neg c_10).symm.trans h
        refine lv_iinc (v := x3 + 1) (lv' := [(3, .int (x3 + 1)), (0, .ref (ad 42)), (1, .int x1), (2, .int x2), (4, .int x4)]) hx hb dX3_holesOf_42 hl (k := 3) rfl rfl (by decide) rfl (fun ls hl => ?_)
        refine lv_iinc (v := x4 + 1) (lv' := [(4, .int (x4 + 1)), (3, .int (x3 + 1)), (0, .ref (ad 42)), (1, .int x1), (2, .int x2)]) hx hb dX3_holesOf_45 hl (k := 4) rfl rfl (by decide) rfl (fun ls hl => ?_)
        refine lv_goto (tgt := 17) hx hb dX3_holesOf_48 (by decide) ?_
        exact ih _ _ _ _ _ h hI (lv_sub hl [2, 3, 4, 1, 0] rfl)
set_option maxHeartbeats 4000000 in
set_option maxRecDepth 100000 in
theorem c_X3_holesOf (l : Launch) (g : GP) (Y : va_W) (ad : Nat → Nat) (N : Nat) (x1 : Int32)  (st : St) {r : Int32}  (h : f_X3_holesOf N st x1 = some r) : MetI l yX3_holesOf wsX3_holesOf rmX3_holesOf g (wCX g Y ad) [.ref (ad 42), .int x1] st (r) st := by
  refine metI_of (cc := cX3_holesOf) (nL := 5) (ty := .int) (by decide) rfl (Nat.le_of_ble_eq_true rfl) rfl ?_
  intro p e s m below meth c Q A C hret H locs hI ls hl
  have C : Cx p s m _ c cX3_holesOf 5 wsX3_holesOf RX3 g A := C
  obtain ⟨hx, hb, hml, hown, hts⟩ := id C.1
  have hl : lv_has ls 5 [(0, .ref (ad 42)), (1, .int x1)] := hl
  rw [f_X3_holesOf] at h
  refine lv_aload_n hx hb dX3_holesOf_0 rfl (lv_at hl 0 rfl) ?_
  refine lv_iload_n hx hb dX3_holesOf_1 rfl (lv_at hl 1 rfl) ?_
  obtain ⟨r_2, hr_1, h⟩ := bd1_some h
  refine callV_I (rest := []) C hI (c_X3_lastPlaceOf l g Y ad N x1 st hr_1) (cwV 1 hts gX3_holesOf_X3_lastPlaceOf rfl rfl rfl hv_X3_lastPlaceOf ⟨Nat.le_of_ble_eq_true rfl, Nat.le_of_ble_eq_true rfl⟩) (w_recv C hI 42 at_R rfl) rfl hl.1 rfl (Nat.le_of_ble_eq_true rfl) dX3_holesOf_2 (fun H locs hI => ?_)
  refine lv_istore_n (lv' := [(2, .int r_2), (0, .ref (ad 42)), (1, .int x1)]) hx hb dX3_holesOf_5 rfl hl (by decide) rfl (fun ls hl => ?_)
  refine lv_iconst (v := 0) hx hb dX3_holesOf_6 (by decide) ?_
  refine lv_istore_n (lv' := [(3, .int 0), (2, .int r_2), (0, .ref (ad 42)), (1, .int x1)]) hx hb dX3_holesOf_7 rfl hl (by decide) rfl (fun ls hl => ?_)
  refine lv_aload_n hx hb dX3_holesOf_8 rfl (lv_at hl 2 rfl) ?_
  refine lv_iload_n hx hb dX3_holesOf_9 rfl (lv_at hl 3 rfl) ?_
  obtain ⟨r_4, hr_3, h⟩ := bd1_some h
  refine callV_I (rest := []) C hI (c_X3_firstPlaceOf l g Y ad N x1 st hr_3) (cwV 1 hts gX3_holesOf_X3_firstPlaceOf rfl rfl rfl hv_X3_firstPlaceOf ⟨Nat.le_of_ble_eq_true rfl, Nat.le_of_ble_eq_true rfl⟩) (w_recv C hI 42 at_R rfl) rfl hl.1 rfl (Nat.le_of_ble_eq_true rfl) dX3_holesOf_10 (fun H locs hI => ?_)
  refine lv_iconst (v := 1) hx hb dX3_holesOf_13 (by decide) ?_
  refine lv_iadd hx hb dX3_holesOf_14 ?_
  refine gen_i h (fun v_5 h => ?_)
  refine lv_istore (lv' := [(4, .int v_5), (3, .int 0), (2, .int r_2), (0, .ref (ad 42)), (1, .int x1)]) hx hb dX3_holesOf_15 hl (by decide) rfl (fun ls hl => ?_)
  refine wl_X3_holesOf_L17 C st hret N x1 r_2 _ (fun a_11 a_12 H locs ls h hI hl => ?_) N 0 v_5 H locs ls h hI (lv_sub hl [3, 4, 2, 1, 0] rfl)
  refine lv_iload_n hx hb dX3_holesOf_51 rfl (lv_at hl 3 rfl) ?_
  obtain rfl := ret1 h
  exact hret H locs _ ls hI dX3_holesOf_52
theorem hv_X3_holesOf : yX3_holesOf.cls = RX3 ∧ yX3_holesOf.cls ≠ "java/lang/invoke/MethodHandle" ∧ yX3_holesOf.cls ≠ "java/lang/invoke/VarHandle" ∧ (parseMethodDescriptor yX3_holesOf.desc).map (fun d => d.parameters.length) = some 1 := by decide +kernel
/-! X3_goingOnAt -/
def rmX3_goingOnAt : Room := { frames := 1, cells := 0, slots := 0, locals := 20 }
def f_X3_goingOnAt_L4 (N : Nat) (x1 : Int32) (st : St) (k : Int32 → Int32 → Option (Int32)) : Nat → Int32 → Int32 → Option (Int32)
  | 0, _, _ => none
  | n + 1, x2, x3 => if x1 ≤ x3 then k x2 x3 else ck 8 x3 fun j_2 => bnd (x2 ||| ((1 : Int32) <<< ((st 46 j_2) &&& 31))) fun v_3 => f_X3_goingOnAt_L4 N x1 st k n v_3 (x3 + 1)
def f_X3_goingOnAt (N : Nat) (st : St) (x1 : Int32) : Option (Int32) := f_X3_goingOnAt_L4 N x1 st (fun a_4 a_5 => ck 256 a_4 fun j_6 => bnd (f_X3_allGraves st) fun r_7 => ck 256 (r_7 &&& (a_4 ^^^ (-1 : Int32))) fun j_8 => bnd (f_J6_bitCount_0f7a4 ((st 43 j_6) &&& (st 43 j_8))) fun r_9 => some r_9) N 0 0
set_option maxHeartbeats 4000000 in
set_option maxRecDepth 100000 in
theorem wl_X3_goingOnAt_L4 {p : Program} {l : Launch} {e : Env} {s : State} {m : MethodId} {args : Array Value} {below : List Frame} {meth : Method} {c : Code} {Q : State → Prop} {A : Nat → Prop} {g : GP} {Y : va_W} {ad : Nat → Nat} {r : Int32}  (C : Cx p s m args c cX3_goingOnAt 4 wsX3_goingOnAt RX3 g A) (st : St) (hret : RetI p l e rmX3_goingOnAt s m args below meth c Q cX3_goingOnAt g A (wCX g Y ad st) (r)) (N : Nat) (x1 : Int32)  (k : Int32 → Int32 → Option (Int32)) (hk : ∀ (x2 : Int32) (x3 : Int32) (H : Heap) (locs : List Loc) (ls : Array Slot), k x2 x3 = some r → IW g A s.heap (wCX g Y ad st) H locs → lv_has ls 4 [(0, .ref (ad 42)), (1, .int x1), (2, .int x2), (3, .int x3)] → W p l e rmX3_goingOnAt s m args below meth c H locs 0 0 Q (F0 m 26 ls [])) : ∀ (n : Nat) (x2 : Int32) (x3 : Int32) (H : Heap) (locs : List Loc) (ls : Array Slot), f_X3_goingOnAt_L4 N x1 st k n x2 x3 = some r → IW g A s.heap (wCX g Y ad st) H locs → lv_has ls 4 [(0, .ref (ad 42)), (1, .int x1), (2, .int x2), (3, .int x3)] → W p l e rmX3_goingOnAt s m args below meth c H locs 0 0 Q (F0 m 4 ls []) := by
  obtain ⟨hx, hb, hml, hown, hts⟩ := id C.1
  have hinRX3 : ∀ w ∈ u_ws RX3 TX3 8, w ∈ wsX3_goingOnAt := by decide +kernel
  have lk30 := hts (.fieldLink RX3 30 "GraveRows$RowSearch" "row" "[I") (by decide +kernel)
  intro n
  induction n with
  | zero =>
    intro x2 x3 H locs ls h hI hl
    rw [f_X3_goingOnAt_L4] at h
    cases h
  | succ n ih =>
    intro x2 x3 H locs ls h hI hl
    rw [f_X3_goingOnAt_L4] at h
    refine lv_iload_n hx hb dX3_goingOnAt_4 rfl (lv_at hl 3 rfl) ?_
    refine lv_iload_n hx hb dX3_goingOnAt_5 rfl (lv_at hl 1 rfl) ?_
    refine lv_icmp_ge (tgt := 26) hx hb dX3_goingOnAt_6 (by decide) (fun c_1 => ?_) (fun c_1 => ?_)
    · replace h := (if_pos c_1).symm.trans h
      exact hk _ _ _ _ _ h hI (lv_sub hl [0, 1, 2, 3] rfl)
    · replace h := (if_neg c_1).symm.trans h
      refine lv_iload_n hx hb dX3_goingOnAt_9 rfl (lv_at hl 2 rfl) ?_
      refine lv_iconst (v := 1) hx hb dX3_goingOnAt_10 (by decide) ?_
      refine lv_aload_n hx hb dX3_goingOnAt_11 rfl (lv_at hl 0 rfl) ?_
      refine w_get (v := .ref (ad 49)) C hinRX3 hI 42 at_R rfl 6 (by decide) lk30 rfl rfl dX3_goingOnAt_12 ?_
      refine lv_iload_n hx hb dX3_goingOnAt_15 rfl (lv_at hl 3 rfl) ?_
      refine w_ld C hI 49 ar_49 h dX3_goingOnAt_16 (fun j_2 hj_2 h => ?_)
      refine lv_ishl hx hb dX3_goingOnAt_17 ?_
      refine lv_ior hx hb dX3_goingOnAt_18 ?_
      refine gen_i h (fun v_3 h => ?_)
      refine lv_istore_n (lv' := [(2, .int v_3), (0, .ref (ad 42)), (1, .int x1), (3, .int x3)]) hx hb dX3_goingOnAt_19 rfl hl (by decide) rfl (fun ls hl => ?_)
      refine lv_iinc (v := x3 + 1) (lv' := [(3, .int (x3 + 1)), (2, .int v_3), (0, .ref (ad 42)), (1, .int x1)]) hx hb dX3_goingOnAt_20 hl (k := 3) rfl rfl (by decide) rfl (fun ls hl => ?_)
      refine lv_goto (tgt := 4) hx hb dX3_goingOnAt_23 (by decide) ?_
      exact ih _ _ _ _ _ h hI (lv_sub hl [2, 3, 1, 0] rfl)
set_option maxHeartbeats 4000000 in
set_option maxRecDepth 100000 in
theorem c_X3_goingOnAt (l : Launch) (g : GP) (Y : va_W) (ad : Nat → Nat) (N : Nat) (x1 : Int32)  (st : St) {r : Int32}  (h : f_X3_goingOnAt N st x1 = some r) : MetI l yX3_goingOnAt wsX3_goingOnAt rmX3_goingOnAt g (wCX g Y ad) [.ref (ad 42), .int x1] st (r) st := by
  refine metI_of (cc := cX3_goingOnAt) (nL := 4) (ty := .int) (by decide) rfl (Nat.le_of_ble_eq_true rfl) rfl ?_
  intro p e s m below meth c Q A C hret H locs hI ls hl
  have C : Cx p s m _ c cX3_goingOnAt 4 wsX3_goingOnAt RX3 g A := C
  obtain ⟨hx, hb, hml, hown, hts⟩ := id C.1
  have hl : lv_has ls 4 [(0, .ref (ad 42)), (1, .int x1)] := hl
  have hinRX3 : ∀ w ∈ u_ws RX3 TX3 8, w ∈ wsX3_goingOnAt := by decide +kernel
  have lk21 := hts (.fieldLink RX3 21 "GraveRows$RowSearch" "goodsOfSet" "[I") (by decide +kernel)
  rw [f_X3_goingOnAt] at h
  refine lv_iconst (v := 0) hx hb dX3_goingOnAt_0 (by decide) ?_
  refine lv_istore_n (lv' := [(2, .int 0), (0, .ref (ad 42)), (1, .int x1)]) hx hb dX3_goingOnAt_1 rfl hl (by decide) rfl (fun ls hl => ?_)
  refine lv_iconst (v := 0) hx hb dX3_goingOnAt_2 (by decide) ?_
  refine lv_istore_n (lv' := [(3, .int 0), (2, .int 0), (0, .ref (ad 42)), (1, .int x1)]) hx hb dX3_goingOnAt_3 rfl hl (by decide) rfl (fun ls hl => ?_)
  refine wl_X3_goingOnAt_L4 C st hret N x1 _ (fun a_4 a_5 H locs ls h hI hl => ?_) N 0 0 H locs ls h hI (lv_sub hl [2, 3, 1, 0] rfl)
  refine lv_aload_n hx hb dX3_goingOnAt_26 rfl (lv_at hl 0 rfl) ?_
  refine w_get (v := .ref (ad 46)) C hinRX3 hI 42 at_R rfl 3 (by decide) lk21 rfl rfl dX3_goingOnAt_27 ?_
  refine lv_iload_n hx hb dX3_goingOnAt_30 rfl (lv_at hl 2 rfl) ?_
  refine w_ld C hI 46 ar_46 h dX3_goingOnAt_31 (fun j_6 hj_6 h => ?_)
  refine lv_aload_n hx hb dX3_goingOnAt_32 rfl (lv_at hl 0 rfl) ?_
  refine w_get (v := .ref (ad 46)) C hinRX3 hI 42 at_R rfl 3 (by decide) lk21 rfl rfl dX3_goingOnAt_33 ?_
  refine lv_aload_n hx hb dX3_goingOnAt_36 rfl (lv_at hl 0 rfl) ?_
  refine callV_I (rest := [.ref (ad 46), .int (st 43 j_6)]) C hI (c_X3_allGraves l g Y ad st) (cwV 0 hts gX3_goingOnAt_X3_allGraves rfl rfl rfl hv_X3_allGraves ⟨Nat.le_of_ble_eq_true rfl, Nat.le_of_ble_eq_true rfl⟩) (w_recv C hI 42 at_R rfl) rfl hl.1 rfl (Nat.le_of_ble_eq_true rfl) dX3_goingOnAt_37 (fun H locs hI => ?_)
  refine gen_i h (fun r_7 h => ?_)
  refine lv_iload_n hx hb dX3_goingOnAt_40 rfl (lv_at hl 2 rfl) ?_
  refine lv_iconst (v := (-1)) hx hb dX3_goingOnAt_41 (by decide) ?_
  refine lv_ixor hx hb dX3_goingOnAt_42 ?_
  refine lv_iand hx hb dX3_goingOnAt_43 ?_
  refine w_ld C hI 46 ar_46 h dX3_goingOnAt_44 (fun j_8 hj_8 h => ?_)
  refine lv_iand hx hb dX3_goingOnAt_45 ?_
  refine callS_S (rest := []) C.1 (c_J6_bitCount_0f7a4 l ((st 43 j_6) &&& (st 43 j_8))) (va_cwS 1 hts gX3_goingOnAt_J6_bitCount_0f7a4 rfl rfl rfl hd_J6_bitCount_0f7a4 ⟨Nat.le_of_ble_eq_true rfl, Nat.le_of_ble_eq_true rfl⟩) rfl hl.1 rfl (Nat.le_of_ble_eq_true rfl) dX3_goingOnAt_46 ?_
  refine gen_i h (fun r_9 h => ?_)
  obtain rfl := ret1 h
  exact hret H locs _ ls hI dX3_goingOnAt_49
theorem hv_X3_goingOnAt : yX3_goingOnAt.cls = RX3 ∧ yX3_goingOnAt.cls ≠ "java/lang/invoke/MethodHandle" ∧ yX3_goingOnAt.cls ≠ "java/lang/invoke/VarHandle" ∧ (parseMethodDescriptor yX3_goingOnAt.desc).map (fun d => d.parameters.length) = some 1 := by decide +kernel
/-! X0_cheapestFree -/
def rmX0_cheapestFree : Room := { frames := 0, cells := 0, slots := 0, locals := 0 }
def f_X0_cheapestFree_L4 (N : Nat) (st : St) (k : Int32 → Int32 → Option (Int32)) : Nat → Int32 → Int32 → Option (Int32)
  | 0, _, _ => none
  | n + 1, x1, x2 => if st 50 0 ≤ x2 then k x1 x2 else ck 8 x2 fun j_2 => if st 49 j_2 = 0 then if x1 = 0 then f_X0_cheapestFree_L4 N st k n x2 (x2 + 1) else ck 8 x2 fun j_5 => ck 8 x1 fun j_6 => if st 48 j_6 ≤ st 48 j_5 then f_X0_cheapestFree_L4 N st k n x1 (x2 + 1) else f_X0_cheapestFree_L4 N st k n x2 (x2 + 1) else f_X0_cheapestFree_L4 N st k n x1 (x2 + 1)
def f_X0_cheapestFree (N : Nat) (st : St) : Option (Int32) := f_X0_cheapestFree_L4 N st (fun a_8 a_9 => some a_8) N 0 1
set_option maxHeartbeats 4000000 in
set_option maxRecDepth 100000 in
theorem wl_X0_cheapestFree_L4 {p : Program} {l : Launch} {e : Env} {s : State} {m : MethodId} {args : Array Value} {below : List Frame} {meth : Method} {c : Code} {Q : State → Prop} {A : Nat → Prop} {g : GP} {Y : va_W} {ad : Nat → Nat} {r : Int32}  (C : Cx p s m args c cX0_cheapestFree 3 wsX0_cheapestFree RX0 g A) (st : St) (hret : RetI p l e rmX0_cheapestFree s m args below meth c Q cX0_cheapestFree g A (wCX g Y ad st) (r)) (N : Nat)  (k : Int32 → Int32 → Option (Int32)) (hk : ∀ (x1 : Int32) (x2 : Int32) (H : Heap) (locs : List Loc) (ls : Array Slot), k x1 x2 = some r → IW g A s.heap (wCX g Y ad st) H locs → lv_has ls 3 [(0, .ref (ad 50)), (1, .int x1), (2, .int x2)] → W p l e rmX0_cheapestFree s m args below meth c H locs 0 0 Q (F0 m 48 ls [])) : ∀ (n : Nat) (x1 : Int32) (x2 : Int32) (H : Heap) (locs : List Loc) (ls : Array Slot), f_X0_cheapestFree_L4 N st k n x1 x2 = some r → IW g A s.heap (wCX g Y ad st) H locs → lv_has ls 3 [(0, .ref (ad 50)), (1, .int x1), (2, .int x2)] → W p l e rmX0_cheapestFree s m args below meth c H locs 0 0 Q (F0 m 4 ls []) := by
  obtain ⟨hx, hb, hml, hown, hts⟩ := id C.1
  have hinRX0 : ∀ w ∈ u_ws RX0 TX0 4, w ∈ wsX0_cheapestFree := by decide +kernel
  have lk25 := hts (.fieldLink RX0 25 "GraveRows$Borders" "size" "I") (by decide +kernel)
  have lk15 := hts (.fieldLink RX0 15 "GraveRows$Borders" "isBorder" "[Z") (by decide +kernel)
  have lk9 := hts (.fieldLink RX0 9 "GraveRows$Borders" "goingOn" "[I") (by decide +kernel)
  intro n
  induction n with
  | zero =>
    intro x1 x2 H locs ls h hI hl
    rw [f_X0_cheapestFree_L4] at h
    cases h
  | succ n ih =>
    intro x1 x2 H locs ls h hI hl
    rw [f_X0_cheapestFree_L4] at h
    refine lv_iload_n hx hb dX0_cheapestFree_4 rfl (lv_at hl 2 rfl) ?_
    refine lv_aload_n hx hb dX0_cheapestFree_5 rfl (lv_at hl 0 rfl) ?_
    refine w_get (v := .int (st 50 0)) C hinRX0 hI 50 at_B rfl 2 (by decide) lk25 rfl rfl dX0_cheapestFree_6 ?_
    refine lv_icmp_ge (tgt := 48) hx hb dX0_cheapestFree_9 (by decide) (fun c_1 => ?_) (fun c_1 => ?_)
    · replace h := (if_pos c_1).symm.trans h
      exact hk _ _ _ _ _ h hI (lv_sub hl [0, 1, 2] rfl)
    · replace h := (if_neg c_1).symm.trans h
      refine lv_aload_n hx hb dX0_cheapestFree_12 rfl (lv_at hl 0 rfl) ?_
      refine w_get (v := .ref (ad 52)) C hinRX0 hI 50 at_B rfl 1 (by decide) lk15 rfl rfl dX0_cheapestFree_13 ?_
      refine lv_iload_n hx hb dX0_cheapestFree_16 rfl (lv_at hl 2 rfl) ?_
      refine w_ldZ C hI 52 ar_52 h dX0_cheapestFree_17 (fun j_2 hj_2 h => ?_)
      refine lv_if_ne (tgt := 42) hx hb dX0_cheapestFree_18 (by decide) (fun c_3 => ?_) (fun c_3 => ?_)
      · replace h := (if_neg c_3).symm.trans h
        refine lv_iinc (v := x2 + 1) (lv' := [(2, .int (x2 + 1)), (0, .ref (ad 50)), (1, .int x1)]) hx hb dX0_cheapestFree_42 hl (k := 2) rfl rfl (by decide) rfl (fun ls hl => ?_)
        refine lv_goto (tgt := 4) hx hb dX0_cheapestFree_45 (by decide) ?_
        exact ih _ _ _ _ _ h hI (lv_sub hl [1, 2, 0] rfl)
      · replace h := (if_pos c_3).symm.trans h
        refine lv_iload_n hx hb dX0_cheapestFree_21 rfl (lv_at hl 1 rfl) ?_
        refine lv_if_eq (tgt := 40) hx hb dX0_cheapestFree_22 (by decide) (fun c_4 => ?_) (fun c_4 => ?_)
        · replace h := (if_pos c_4).symm.trans h
          refine lv_iload_n hx hb dX0_cheapestFree_40 rfl (lv_at hl 2 rfl) ?_
          refine lv_istore_n (lv' := [(1, .int x2), (0, .ref (ad 50)), (2, .int x2)]) hx hb dX0_cheapestFree_41 rfl hl (by decide) rfl (fun ls hl => ?_)
          refine lv_iinc (v := x2 + 1) (lv' := [(2, .int (x2 + 1)), (1, .int x2), (0, .ref (ad 50))]) hx hb dX0_cheapestFree_42 hl (k := 2) rfl rfl (by decide) rfl (fun ls hl => ?_)
          refine lv_goto (tgt := 4) hx hb dX0_cheapestFree_45 (by decide) ?_
          exact ih _ _ _ _ _ h hI (lv_sub hl [2, 1, 0] rfl)
        · replace h := (if_neg c_4).symm.trans h
          refine lv_aload_n hx hb dX0_cheapestFree_25 rfl (lv_at hl 0 rfl) ?_
          refine w_get (v := .ref (ad 51)) C hinRX0 hI 50 at_B rfl 0 (by decide) lk9 rfl rfl dX0_cheapestFree_26 ?_
          refine lv_iload_n hx hb dX0_cheapestFree_29 rfl (lv_at hl 2 rfl) ?_
          refine w_ld C hI 51 ar_51 h dX0_cheapestFree_30 (fun j_5 hj_5 h => ?_)
          refine lv_aload_n hx hb dX0_cheapestFree_31 rfl (lv_at hl 0 rfl) ?_
          refine w_get (v := .ref (ad 51)) C hinRX0 hI 50 at_B rfl 0 (by decide) lk9 rfl rfl dX0_cheapestFree_32 ?_
          refine lv_iload_n hx hb dX0_cheapestFree_35 rfl (lv_at hl 1 rfl) ?_
          refine w_ld C hI 51 ar_51 h dX0_cheapestFree_36 (fun j_6 hj_6 h => ?_)
          refine lv_icmp_ge (tgt := 42) hx hb dX0_cheapestFree_37 (by decide) (fun c_7 => ?_) (fun c_7 => ?_)
          · replace h := (if_pos c_7).symm.trans h
            refine lv_iinc (v := x2 + 1) (lv' := [(2, .int (x2 + 1)), (0, .ref (ad 50)), (1, .int x1)]) hx hb dX0_cheapestFree_42 hl (k := 2) rfl rfl (by decide) rfl (fun ls hl => ?_)
            refine lv_goto (tgt := 4) hx hb dX0_cheapestFree_45 (by decide) ?_
            exact ih _ _ _ _ _ h hI (lv_sub hl [1, 2, 0] rfl)
          · replace h := (if_neg c_7).symm.trans h
            refine lv_iload_n hx hb dX0_cheapestFree_40 rfl (lv_at hl 2 rfl) ?_
            refine lv_istore_n (lv' := [(1, .int x2), (0, .ref (ad 50)), (2, .int x2)]) hx hb dX0_cheapestFree_41 rfl hl (by decide) rfl (fun ls hl => ?_)
            refine lv_iinc (v := x2 + 1) (lv' := [(2, .int (x2 + 1)), (1, .int x2), (0, .ref (ad 50))]) hx hb dX0_cheapestFree_42 hl (k := 2) rfl rfl (by decide) rfl (fun ls hl => ?_)
            refine lv_goto (tgt := 4) hx hb dX0_cheapestFree_45 (by decide) ?_
            exact ih _ _ _ _ _ h hI (lv_sub hl [2, 1, 0] rfl)
set_option maxHeartbeats 4000000 in
set_option maxRecDepth 100000 in
theorem c_X0_cheapestFree (l : Launch) (g : GP) (Y : va_W) (ad : Nat → Nat) (N : Nat)  (st : St) {r : Int32}  (h : f_X0_cheapestFree N st = some r) : MetI l yX0_cheapestFree wsX0_cheapestFree rmX0_cheapestFree g (wCX g Y ad) [.ref (ad 50)] st (r) st := by
  refine metI_of (cc := cX0_cheapestFree) (nL := 3) (ty := .int) (by decide) rfl (Nat.le_of_ble_eq_true rfl) rfl ?_
  intro p e s m below meth c Q A C hret H locs hI ls hl
  have C : Cx p s m _ c cX0_cheapestFree 3 wsX0_cheapestFree RX0 g A := C
  obtain ⟨hx, hb, hml, hown, hts⟩ := id C.1
  have hl : lv_has ls 3 [(0, .ref (ad 50))] := hl
  rw [f_X0_cheapestFree] at h
  refine lv_iconst (v := 0) hx hb dX0_cheapestFree_0 (by decide) ?_
  refine lv_istore_n (lv' := [(1, .int 0), (0, .ref (ad 50))]) hx hb dX0_cheapestFree_1 rfl hl (by decide) rfl (fun ls hl => ?_)
  refine lv_iconst (v := 1) hx hb dX0_cheapestFree_2 (by decide) ?_
  refine lv_istore_n (lv' := [(2, .int 1), (1, .int 0), (0, .ref (ad 50))]) hx hb dX0_cheapestFree_3 rfl hl (by decide) rfl (fun ls hl => ?_)
  refine wl_X0_cheapestFree_L4 C st hret N _ (fun a_8 a_9 H locs ls h hI hl => ?_) N 0 1 H locs ls h hI (lv_sub hl [2, 1, 0] rfl)
  refine lv_iload_n hx hb dX0_cheapestFree_48 rfl (lv_at hl 1 rfl) ?_
  obtain rfl := ret1 h
  exact hret H locs _ ls hI dX0_cheapestFree_49
theorem hv_X0_cheapestFree : yX0_cheapestFree.cls = RX0 ∧ yX0_cheapestFree.cls ≠ "java/lang/invoke/MethodHandle" ∧ yX0_cheapestFree.cls ≠ "java/lang/invoke/VarHandle" ∧ (parseMethodDescriptor yX0_cheapestFree.desc).map (fun d => d.parameters.length) = some 0 := by decide +kernel
/-! X0_choose -/
def rmX0_choose : Room := { frames := 2, cells := 0, slots := 0, locals := 43 }
def f_X0_choose_L15 (N : Nat) (x2 : Int32) (k : Int32 → St → Option (St)) : Nat → Int32 → St → Option (St)
  | 0, _, _ => none
  | n + 1, x3, st => if st 50 0 ≤ x3 then k x3 st else bd1 (f_X3_goingOnAt N st x3) fun r_5 => sto 8 st 48 x3 r_5 fun st_6 => sto 8 st_6 49 x3 0 fun st_7 => f_X0_choose_L15 N x2 k n (x3 + 1) st_7
def f_X0_choose_L49 (N : Nat) (x2 : Int32) (k : Int32 → St → Option (St)) : Nat → Int32 → St → Option (St)
  | 0, _, _ => none
  | n + 1, x3, st => if x2 ≤ x3 then k x3 st else bd1 (f_X0_cheapestFree N st) fun r_12 => if r_12 ≤ 0 then f_X0_choose_L49 N x2 k n (x3 + 1) st else sto 8 st 49 r_12 1 fun st_14 => ck 8 r_12 fun j_15 => bnd (sU st_14 50 1 ((st_14 50 1) + (st_14 48 j_15))) fun st_16 => f_X0_choose_L49 N x2 k n (x3 + 1) st_16
def f_X0_choose (N : Nat) (st : St) (x2 : Int32) : Option (St) := bnd (sU st 50 0 (st 47 0)) fun st_1 => bnd (sU st_1 50 1 0) fun st_2 => f_X0_choose_L15 N x2 (fun a_8 st_9 => f_X0_choose_L49 N x2 (fun a_17 st_18 => some st_18) N 1 st_9) N 0 st_2
set_option maxHeartbeats 4000000 in
set_option maxRecDepth 100000 in
theorem wl_X0_choose_L15 {p : Program} {l : Launch} {e : Env} {s : State} {m : MethodId} {args : Array Value} {below : List Frame} {meth : Method} {c : Code} {Q : State → Prop} {A : Nat → Prop} {g : GP} {Y : va_W} {ad : Nat → Nat} {st' : St} (C : Cx p s m args c cX0_choose 5 wsX0_choose RX0 g A) (hret : RetV p l e rmX0_choose s m args below meth c Q cX0_choose g A (wCX g Y ad st')) (N : Nat) (x2 : Int32)  (k : Int32 → St → Option (St)) (hk : ∀ (x3 : Int32) (st : St) (H : Heap) (locs : List Loc) (ls : Array Slot), k x3 st = some st' → IW g A s.heap (wCX g Y ad st) H locs → lv_has ls 5 [(0, .ref (ad 50)), (1, .ref (ad 42)), (2, .int x2), (3, .int x3)] → W p l e rmX0_choose s m args below meth c H locs 0 0 Q (F0 m 47 ls [])) : ∀ (n : Nat) (x3 : Int32) (st : St) (H : Heap) (locs : List Loc) (ls : Array Slot), f_X0_choose_L15 N x2 k n x3 st = some st' → IW g A s.heap (wCX g Y ad st) H locs → lv_has ls 5 [(0, .ref (ad 50)), (1, .ref (ad 42)), (2, .int x2), (3, .int x3)] → W p l e rmX0_choose s m args below meth c H locs 0 0 Q (F0 m 15 ls []) := by
  obtain ⟨hx, hb, hml, hown, hts⟩ := id C.1
  have hinRX0 : ∀ w ∈ u_ws RX0 TX0 4, w ∈ wsX0_choose := by decide +kernel
  have lk25 := hts (.fieldLink RX0 25 "GraveRows$Borders" "size" "I") (by decide +kernel)
  have lk9 := hts (.fieldLink RX0 9 "GraveRows$Borders" "goingOn" "[I") (by decide +kernel)
  have lk15 := hts (.fieldLink RX0 15 "GraveRows$Borders" "isBorder" "[Z") (by decide +kernel)
  intro n
  induction n with
  | zero =>
    intro x3 st H locs ls h hI hl
    rw [f_X0_choose_L15] at h
    cases h
  | succ n ih =>
    intro x3 st H locs ls h hI hl
    rw [f_X0_choose_L15] at h
    refine lv_iload_n hx hb dX0_choose_15 rfl (lv_at hl 3 rfl) ?_
    refine lv_aload_n hx hb dX0_choose_16 rfl (lv_at hl 0 rfl) ?_
    refine w_get (v := .int (st 50 0)) C hinRX0 hI 50 at_B rfl 2 (by decide) lk25 rfl rfl dX0_choose_17 ?_
    refine lv_icmp_ge (tgt := 47) hx hb dX0_choose_20 (by decide) (fun c_3 => ?_) (fun c_3 => ?_)
    · replace h := (if_pos c_3).symm.trans h
      exact hk _ _ _ _ _ h hI (lv_sub hl [0, 1, 2, 3] rfl)
    · replace h := (if_neg c_3).symm.trans h
      refine lv_aload_n hx hb dX0_choose_23 rfl (lv_at hl 0 rfl) ?_
      refine w_get (v := .ref (ad 51)) C hinRX0 hI 50 at_B rfl 0 (by decide) lk9 rfl rfl dX0_choose_24 ?_
      refine lv_iload_n hx hb dX0_choose_27 rfl (lv_at hl 3 rfl) ?_
      refine lv_aload_n hx hb dX0_choose_28 rfl (lv_at hl 1 rfl) ?_
      refine lv_iload_n hx hb dX0_choose_29 rfl (lv_at hl 3 rfl) ?_
      obtain ⟨r_5, hr_4, h⟩ := bd1_some h
      refine callV_I (rest := [.int x3, .ref (ad 51)]) C hI (c_X3_goingOnAt l g Y ad N x3 st hr_4) (cwV 1 hts gX0_choose_X3_goingOnAt rfl rfl rfl hv_X3_goingOnAt ⟨Nat.le_of_ble_eq_true rfl, Nat.le_of_ble_eq_true rfl⟩) (w_recv C hI 42 at_R rfl) rfl hl.1 rfl (Nat.le_of_ble_eq_true rfl) dX0_choose_30 (fun H locs hI => ?_)
      refine w_st C hI 51 ar_51 sa_51 h dX0_choose_33 (fun st_6 H locs h hI => ?_)
      refine lv_aload_n hx hb dX0_choose_34 rfl (lv_at hl 0 rfl) ?_
      refine w_get (v := .ref (ad 52)) C hinRX0 hI 50 at_B rfl 1 (by decide) lk15 rfl rfl dX0_choose_35 ?_
      refine lv_iload_n hx hb dX0_choose_38 rfl (lv_at hl 3 rfl) ?_
      refine lv_iconst (v := 0) hx hb dX0_choose_39 (by decide) ?_
      refine w_stZ C hI 52 ar_52 sa_52 rfl h dX0_choose_40 (fun st_7 H locs h hI => ?_)
      refine lv_iinc (v := x3 + 1) (lv' := [(3, .int (x3 + 1)), (0, .ref (ad 50)), (1, .ref (ad 42)), (2, .int x2)]) hx hb dX0_choose_41 hl (k := 3) rfl rfl (by decide) rfl (fun ls hl => ?_)
      refine lv_goto (tgt := 15) hx hb dX0_choose_44 (by decide) ?_
      exact ih _ _ _ _ _ h hI (lv_sub hl [1, 2, 3, 0] rfl)
set_option maxHeartbeats 4000000 in
set_option maxRecDepth 100000 in
theorem wl_X0_choose_L49 {p : Program} {l : Launch} {e : Env} {s : State} {m : MethodId} {args : Array Value} {below : List Frame} {meth : Method} {c : Code} {Q : State → Prop} {A : Nat → Prop} {g : GP} {Y : va_W} {ad : Nat → Nat} {st' : St} (C : Cx p s m args c cX0_choose 5 wsX0_choose RX0 g A) (hret : RetV p l e rmX0_choose s m args below meth c Q cX0_choose g A (wCX g Y ad st')) (N : Nat) (x2 : Int32)  (k : Int32 → St → Option (St)) (hk : ∀ (x3 : Int32) (st : St) (H : Heap) (locs : List Loc) (ls : Array Slot), k x3 st = some st' → IW g A s.heap (wCX g Y ad st) H locs → lv_has ls 5 [(0, .ref (ad 50)), (2, .int x2), (3, .int x3)] → W p l e rmX0_choose s m args below meth c H locs 0 0 Q (F0 m 95 ls [])) : ∀ (n : Nat) (x3 : Int32) (st : St) (H : Heap) (locs : List Loc) (ls : Array Slot), f_X0_choose_L49 N x2 k n x3 st = some st' → IW g A s.heap (wCX g Y ad st) H locs → lv_has ls 5 [(0, .ref (ad 50)), (2, .int x2), (3, .int x3)] → W p l e rmX0_choose s m args below meth c H locs 0 0 Q (F0 m 49 ls []) := by
  obtain ⟨hx, hb, hml, hown, hts⟩ := id C.1
  have hinRX0 : ∀ w ∈ u_ws RX0 TX0 4, w ∈ wsX0_choose := by decide +kernel
  have lk15 := hts (.fieldLink RX0 15 "GraveRows$Borders" "isBorder" "[Z") (by decide +kernel)
  have lk26 := hts (.fieldLink RX0 26 "GraveRows$Borders" "total" "I") (by decide +kernel)
  have lk9 := hts (.fieldLink RX0 9 "GraveRows$Borders" "goingOn" "[I") (by decide +kernel)
  intro n
  induction n with
  | zero =>
    intro x3 st H locs ls h hI hl
    rw [f_X0_choose_L49] at h
    cases h
  | succ n ih =>
    intro x3 st H locs ls h hI hl
    rw [f_X0_choose_L49] at h
    refine lv_iload_n hx hb dX0_choose_49 rfl (lv_at hl 2 rfl) ?_
    refine lv_iload_n hx hb dX0_choose_50 rfl (lv_at hl 1 rfl) ?_
    refine lv_icmp_ge (tgt := 95) hx hb dX0_choose_51 (by decide) (fun c_10 => ?_) (fun c_10 => ?_)
    · replace h := (if_pos c_10).symm.trans h
      exact hk _ _ _ _ _ h hI (lv_sub hl [0, 1, 2] rfl)
    · replace h := (if_neg c_10).symm.trans h
      refine lv_aload_n hx hb dX0_choose_54 rfl (lv_at hl 0 rfl) ?_
      obtain ⟨r_12, hr_11, h⟩ := bd1_some h
      refine callV_I (rest := []) C hI (c_X0_cheapestFree l g Y ad N st hr_11) (cwV 0 hts gX0_choose_X0_cheapestFree rfl rfl rfl hv_X0_cheapestFree ⟨Nat.le_of_ble_eq_true rfl, Nat.le_of_ble_eq_true rfl⟩) (w_recv C hI 50 at_B rfl) rfl hl.1 rfl (Nat.le_of_ble_eq_true rfl) dX0_choose_55 (fun H locs hI => ?_)
      refine lv_istore (lv' := [(4, .int r_12), (0, .ref (ad 50)), (2, .int x2), (3, .int x3)]) hx hb dX0_choose_58 hl (by decide) rfl (fun ls hl => ?_)
      refine lv_iload hx hb dX0_choose_60 (lv_at hl 0 rfl) ?_
      refine lv_if_le (tgt := 89) hx hb dX0_choose_62 (by decide) (fun c_13 => ?_) (fun c_13 => ?_)
      · replace h := (if_pos c_13).symm.trans h
        refine lv_iinc (v := x3 + 1) (lv' := [(3, .int (x3 + 1)), (4, .int r_12), (0, .ref (ad 50)), (2, .int x2)]) hx hb dX0_choose_89 hl (k := 3) rfl rfl (by decide) rfl (fun ls hl => ?_)
        refine lv_goto (tgt := 49) hx hb dX0_choose_92 (by decide) ?_
        exact ih _ _ _ _ _ h hI (lv_sub hl [2, 3, 0] rfl)
      · replace h := (if_neg c_13).symm.trans h
        refine lv_aload_n hx hb dX0_choose_65 rfl (lv_at hl 1 rfl) ?_
        refine w_get (v := .ref (ad 52)) C hinRX0 hI 50 at_B rfl 1 (by decide) lk15 rfl rfl dX0_choose_66 ?_
        refine lv_iload hx hb dX0_choose_69 (lv_at hl 0 rfl) ?_
        refine lv_iconst (v := 1) hx hb dX0_choose_71 (by decide) ?_
        refine w_stZ C hI 52 ar_52 sa_52 rfl h dX0_choose_72 (fun st_14 H locs h hI => ?_)
        refine lv_aload_n hx hb dX0_choose_73 rfl (lv_at hl 1 rfl) ?_
        refine lv_dup hx hb dX0_choose_74 rfl ?_
        refine w_get (v := .int (st_14 50 1)) C hinRX0 hI 50 at_B rfl 3 (by decide) lk26 rfl rfl dX0_choose_75 ?_
        refine lv_aload_n hx hb dX0_choose_78 rfl (lv_at hl 1 rfl) ?_
        refine w_get (v := .ref (ad 51)) C hinRX0 hI 50 at_B rfl 0 (by decide) lk9 rfl rfl dX0_choose_79 ?_
        refine lv_iload hx hb dX0_choose_82 (lv_at hl 0 rfl) ?_
        refine w_ld C hI 51 ar_51 h dX0_choose_84 (fun j_15 hj_15 h => ?_)
        refine lv_iadd hx hb dX0_choose_85 ?_
        refine w_put C hinRX0 tyX0 tyX0_ok nmX0 hI 50 at_B rfl 3 h st_B_total (by decide) (Nat.le_of_ble_eq_true rfl) lk26 ⟨rfl, rfl⟩ rfl rfl dX0_choose_86 (fun st_16 H locs h hI => ?_)
        refine lv_iinc (v := x3 + 1) (lv' := [(3, .int (x3 + 1)), (4, .int r_12), (0, .ref (ad 50)), (2, .int x2)]) hx hb dX0_choose_89 hl (k := 3) rfl rfl (by decide) rfl (fun ls hl => ?_)
        refine lv_goto (tgt := 49) hx hb dX0_choose_92 (by decide) ?_
        exact ih _ _ _ _ _ h hI (lv_sub hl [2, 3, 0] rfl)
set_option maxHeartbeats 4000000 in
set_option maxRecDepth 100000 in
theorem c_X0_choose (l : Launch) (g : GP) (Y : va_W) (ad : Nat → Nat) (N : Nat) (x2 : Int32)  (st : St) {st' : St} (h : f_X0_choose N st x2 = some st') : MetV l yX0_choose wsX0_choose rmX0_choose g (wCX g Y ad) [.ref (ad 50), .ref (ad 42), .int x2] st st' := by
  refine metV_of (cc := cX0_choose) (nL := 5) (by decide) rfl (Nat.le_of_ble_eq_true rfl) ?_
  intro p e s m below meth c Q A C hret H locs hI ls hl
  have C : Cx p s m _ c cX0_choose 5 wsX0_choose RX0 g A := C
  obtain ⟨hx, hb, hml, hown, hts⟩ := id C.1
  have hl : lv_has ls 5 [(0, .ref (ad 50)), (1, .ref (ad 42)), (2, .int x2)] := hl
  have hinRX3 : ∀ w ∈ u_ws RX3 TX3 8, w ∈ wsX0_choose := by decide +kernel
  have lk19 := hts (.fieldLink RX0 19 "GraveRows$RowSearch" "size" "I") (by decide +kernel)
  have hinRX0 : ∀ w ∈ u_ws RX0 TX0 4, w ∈ wsX0_choose := by decide +kernel
  have lk25 := hts (.fieldLink RX0 25 "GraveRows$Borders" "size" "I") (by decide +kernel)
  have lk26 := hts (.fieldLink RX0 26 "GraveRows$Borders" "total" "I") (by decide +kernel)
  rw [f_X0_choose] at h
  refine lv_aload_n hx hb dX0_choose_0 rfl (lv_at hl 0 rfl) ?_
  refine lv_aload_n hx hb dX0_choose_1 rfl (lv_at hl 1 rfl) ?_
  refine w_get (v := .int (st 47 0)) C hinRX3 hI 42 at_R rfl 7 (by decide) lk19 rfl rfl dX0_choose_2 ?_
  refine w_put C hinRX0 tyX0 tyX0_ok nmX0 hI 50 at_B rfl 2 h st_B_size (by decide) (Nat.le_of_ble_eq_true rfl) lk25 ⟨rfl, rfl⟩ rfl rfl dX0_choose_5 (fun st_1 H locs h hI => ?_)
  refine lv_aload_n hx hb dX0_choose_8 rfl (lv_at hl 0 rfl) ?_
  refine lv_iconst (v := 0) hx hb dX0_choose_9 (by decide) ?_
  refine w_put C hinRX0 tyX0 tyX0_ok nmX0 hI 50 at_B rfl 3 h st_B_total (by decide) (Nat.le_of_ble_eq_true rfl) lk26 ⟨rfl, rfl⟩ rfl rfl dX0_choose_10 (fun st_2 H locs h hI => ?_)
  refine lv_iconst (v := 0) hx hb dX0_choose_13 (by decide) ?_
  refine lv_istore_n (lv' := [(3, .int 0), (0, .ref (ad 50)), (1, .ref (ad 42)), (2, .int x2)]) hx hb dX0_choose_14 rfl hl (by decide) rfl (fun ls hl => ?_)
  refine wl_X0_choose_L15 C hret N x2 _ (fun a_8 st_9 H locs ls h hI hl => ?_) N 0 st_2 H locs ls h hI (lv_sub hl [1, 2, 3, 0] rfl)
  refine lv_iconst (v := 1) hx hb dX0_choose_47 (by decide) ?_
  refine lv_istore_n (lv' := [(3, .int 1), (0, .ref (ad 50)), (1, .ref (ad 42)), (2, .int x2)]) hx hb dX0_choose_48 rfl hl (by decide) rfl (fun ls hl => ?_)
  refine wl_X0_choose_L49 C hret N x2 _ (fun a_17 st_18 H locs ls h hI hl => ?_) N 1 st_9 H locs ls h hI (lv_sub hl [1, 3, 0] rfl)
  obtain rfl := ret1 h
  exact hret H locs _ ls hI dX0_choose_95
theorem hv_X0_choose : yX0_choose.cls = RX0 ∧ yX0_choose.cls ≠ "java/lang/invoke/MethodHandle" ∧ yX0_choose.cls ≠ "java/lang/invoke/VarHandle" ∧ (parseMethodDescriptor yX0_choose.desc).map (fun d => d.parameters.length) = some 2 := by decide +kernel
/-! X0_beginOf -/
def rmX0_beginOf : Room := { frames := 0, cells := 0, slots := 0, locals := 0 }
def f_X0_beginOf_L4 (N : Nat) (x1 : Int32) (st : St) (k : Int32 → Int32 → Option (Int32)) : Nat → Int32 → Int32 → Option (Int32)
  | 0, _, _ => none
  | n + 1, x2, x3 => if st 50 0 ≤ x3 then k x2 x3 else ck 8 x3 fun j_2 => if st 49 j_2 = 0 then f_X0_beginOf_L4 N x1 st k n x2 (x3 + 1) else if x2 + 1 = x1 then some x3 else f_X0_beginOf_L4 N x1 st k n (x2 + 1) (x3 + 1)
def f_X0_beginOf (N : Nat) (st : St) (x1 : Int32) : Option (Int32) := f_X0_beginOf_L4 N x1 st (fun a_5 a_6 => some 0) N 0 1
set_option maxHeartbeats 4000000 in
set_option maxRecDepth 100000 in
theorem wl_X0_beginOf_L4 {p : Program} {l : Launch} {e : Env} {s : State} {m : MethodId} {args : Array Value} {below : List Frame} {meth : Method} {c : Code} {Q : State → Prop} {A : Nat → Prop} {g : GP} {Y : va_W} {ad : Nat → Nat} {r : Int32}  (C : Cx p s m args c cX0_beginOf 4 wsX0_beginOf RX0 g A) (st : St) (hret : RetI p l e rmX0_beginOf s m args below meth c Q cX0_beginOf g A (wCX g Y ad st) (r)) (N : Nat) (x1 : Int32)  (k : Int32 → Int32 → Option (Int32)) (hk : ∀ (x2 : Int32) (x3 : Int32) (H : Heap) (locs : List Loc) (ls : Array Slot), k x2 x3 = some r → IW g A s.heap (wCX g Y ad st) H locs → lv_has ls 4 [(0, .ref (ad 50)), (1, .int x1), (2, .int x2), (3, .int x3)] → W p l e rmX0_beginOf s m args below meth c H locs 0 0 Q (F0 m 37 ls [])) : ∀ (n : Nat) (x2 : Int32) (x3 : Int32) (H : Heap) (locs : List Loc) (ls : Array Slot), f_X0_beginOf_L4 N x1 st k n x2 x3 = some r → IW g A s.heap (wCX g Y ad st) H locs → lv_has ls 4 [(0, .ref (ad 50)), (1, .int x1), (2, .int x2), (3, .int x3)] → W p l e rmX0_beginOf s m args below meth c H locs 0 0 Q (F0 m 4 ls []) := by
  obtain ⟨hx, hb, hml, hown, hts⟩ := id C.1
  have hinRX0 : ∀ w ∈ u_ws RX0 TX0 4, w ∈ wsX0_beginOf := by decide +kernel
  have lk25 := hts (.fieldLink RX0 25 "GraveRows$Borders" "size" "I") (by decide +kernel)
  have lk15 := hts (.fieldLink RX0 15 "GraveRows$Borders" "isBorder" "[Z") (by decide +kernel)
  intro n
  induction n with
  | zero =>
    intro x2 x3 H locs ls h hI hl
    rw [f_X0_beginOf_L4] at h
    cases h
  | succ n ih =>
    intro x2 x3 H locs ls h hI hl
    rw [f_X0_beginOf_L4] at h
    refine lv_iload_n hx hb dX0_beginOf_4 rfl (lv_at hl 3 rfl) ?_
    refine lv_aload_n hx hb dX0_beginOf_5 rfl (lv_at hl 0 rfl) ?_
    refine w_get (v := .int (st 50 0)) C hinRX0 hI 50 at_B rfl 2 (by decide) lk25 rfl rfl dX0_beginOf_6 ?_
    refine lv_icmp_ge (tgt := 37) hx hb dX0_beginOf_9 (by decide) (fun c_1 => ?_) (fun c_1 => ?_)
    · replace h := (if_pos c_1).symm.trans h
      exact hk _ _ _ _ _ h hI (lv_sub hl [0, 1, 2, 3] rfl)
    · replace h := (if_neg c_1).symm.trans h
      refine lv_aload_n hx hb dX0_beginOf_12 rfl (lv_at hl 0 rfl) ?_
      refine w_get (v := .ref (ad 52)) C hinRX0 hI 50 at_B rfl 1 (by decide) lk15 rfl rfl dX0_beginOf_13 ?_
      refine lv_iload_n hx hb dX0_beginOf_16 rfl (lv_at hl 3 rfl) ?_
      refine w_ldZ C hI 52 ar_52 h dX0_beginOf_17 (fun j_2 hj_2 h => ?_)
      refine lv_if_eq (tgt := 31) hx hb dX0_beginOf_18 (by decide) (fun c_3 => ?_) (fun c_3 => ?_)
      · replace h := (if_pos c_3).symm.trans h
        refine lv_iinc (v := x3 + 1) (lv' := [(3, .int (x3 + 1)), (0, .ref (ad 50)), (1, .int x1), (2, .int x2)]) hx hb dX0_beginOf_31 hl (k := 3) rfl rfl (by decide) rfl (fun ls hl => ?_)
        refine lv_goto (tgt := 4) hx hb dX0_beginOf_34 (by decide) ?_
        exact ih _ _ _ _ _ h hI (lv_sub hl [1, 2, 3, 0] rfl)
      · replace h := (if_neg c_3).symm.trans h
        refine lv_iinc (v := x2 + 1) (lv' := [(2, .int (x2 + 1)), (0, .ref (ad 50)), (1, .int x1), (3, .int x3)]) hx hb dX0_beginOf_21 hl (k := 2) rfl rfl (by decide) rfl (fun ls hl => ?_)
        refine lv_iload_n hx hb dX0_beginOf_24 rfl (lv_at hl 0 rfl) ?_
        refine lv_iload_n hx hb dX0_beginOf_25 rfl (lv_at hl 2 rfl) ?_
        refine lv_icmp_ne (tgt := 31) hx hb dX0_beginOf_26 (by decide) (fun c_4 => ?_) (fun c_4 => ?_)
        · replace h := (if_neg c_4).symm.trans h
          refine lv_iinc (v := x3 + 1) (lv' := [(3, .int (x3 + 1)), (2, .int (x2 + 1)), (0, .ref (ad 50)), (1, .int x1)]) hx hb dX0_beginOf_31 hl (k := 3) rfl rfl (by decide) rfl (fun ls hl => ?_)
          refine lv_goto (tgt := 4) hx hb dX0_beginOf_34 (by decide) ?_
          exact ih _ _ _ _ _ h hI (lv_sub hl [2, 3, 1, 0] rfl)
        · replace h := (if_pos c_4).symm.trans h
          refine lv_iload_n hx hb dX0_beginOf_29 rfl (lv_at hl 3 rfl) ?_
          obtain rfl := ret1 h
          exact hret H locs _ ls hI dX0_beginOf_30
set_option maxHeartbeats 4000000 in
set_option maxRecDepth 100000 in
theorem c_X0_beginOf (l : Launch) (g : GP) (Y : va_W) (ad : Nat → Nat) (N : Nat) (x1 : Int32)  (st : St) {r : Int32}  (h : f_X0_beginOf N st x1 = some r) : MetI l yX0_beginOf wsX0_beginOf rmX0_beginOf g (wCX g Y ad) [.ref (ad 50), .int x1] st (r) st := by
  refine metI_of (cc := cX0_beginOf) (nL := 4) (ty := .int) (by decide) rfl (Nat.le_of_ble_eq_true rfl) rfl ?_
  intro p e s m below meth c Q A C hret H locs hI ls hl
  have C : Cx p s m _ c cX0_beginOf 4 wsX0_beginOf RX0 g A := C
  obtain ⟨hx, hb, hml, hown, hts⟩ := id C.1
  have hl : lv_has ls 4 [(0, .ref (ad 50)), (1, .int x1)] := hl
  rw [f_X0_beginOf] at h
  refine lv_iconst (v := 0) hx hb dX0_beginOf_0 (by decide) ?_
  refine lv_istore_n (lv' := [(2, .int 0), (0, .ref (ad 50)), (1, .int x1)]) hx hb dX0_beginOf_1 rfl hl (by decide) rfl (fun ls hl => ?_)
  refine lv_iconst (v := 1) hx hb dX0_beginOf_2 (by decide) ?_
  refine lv_istore_n (lv' := [(3, .int 1), (2, .int 0), (0, .ref (ad 50)), (1, .int x1)]) hx hb dX0_beginOf_3 rfl hl (by decide) rfl (fun ls hl => ?_)
  refine wl_X0_beginOf_L4 C st hret N x1 _ (fun a_5 a_6 H locs ls h hI hl => ?_) N 0 1 H locs ls h hI (lv_sub hl [2, 3, 1, 0] rfl)
  refine lv_iconst (v := 0) hx hb dX0_beginOf_37 (by decide) ?_
  obtain rfl := ret1 h
  exact hret H locs _ ls hI dX0_beginOf_38
theorem hv_X0_beginOf : yX0_beginOf.cls = RX0 ∧ yX0_beginOf.cls ≠ "java/lang/invoke/MethodHandle" ∧ yX0_beginOf.cls ≠ "java/lang/invoke/VarHandle" ∧ (parseMethodDescriptor yX0_beginOf.desc).map (fun d => d.parameters.length) = some 1 := by decide +kernel
