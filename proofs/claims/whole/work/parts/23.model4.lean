/-! X6_yearOf -/
def rmX6_yearOf : Room := { frames := 1, cells := 0, slots := 0, locals := 24 }
def f_X6_yearOf_L29 (N : Nat) (x1 : Int32) (x2 : Bool) (x4 : Int32) (st : St) (k : Int32 → Int32 → Option (Int32)) : Nat → Int32 → Int32 → Option (Int32)
  | 0, _, _ => none
  | n + 1, x3, x5 => if st 0 0 ≤ x5 then k x3 x5 else if b2i x2 = 0 then if (x4 >>> (x5 &&& 31)) &&& (1 : Int32) = 1 then ck 116 (42 + x5) fun j_21 => bnd (imax x3 (st 0 j_21)) fun v_22 => if b2i x2 = 0 then f_X6_yearOf_L29 N x1 x2 x4 st k n v_22 (x5 + 1) else bd1 (f_X6_below N st x5) fun r_25 => if (r_25 >>> (x1 &&& 31)) &&& (1 : Int32) = 1 then ck 116 (52 + x5) fun j_27 => bnd (imin v_22 (st 0 j_27)) fun v_28 => f_X6_yearOf_L29 N x1 x2 x4 st k n v_28 (x5 + 1) else f_X6_yearOf_L29 N x1 x2 x4 st k n v_22 (x5 + 1) else if b2i x2 = 0 then f_X6_yearOf_L29 N x1 x2 x4 st k n x3 (x5 + 1) else bd1 (f_X6_below N st x5) fun r_17 => if (r_17 >>> (x1 &&& 31)) &&& (1 : Int32) = 1 then ck 116 (52 + x5) fun j_19 => bnd (imin x3 (st 0 j_19)) fun v_20 => f_X6_yearOf_L29 N x1 x2 x4 st k n v_20 (x5 + 1) else f_X6_yearOf_L29 N x1 x2 x4 st k n x3 (x5 + 1) else if b2i x2 = 0 then f_X6_yearOf_L29 N x1 x2 x4 st k n x3 (x5 + 1) else bd1 (f_X6_below N st x5) fun r_10 => if (r_10 >>> (x1 &&& 31)) &&& (1 : Int32) = 1 then ck 116 (52 + x5) fun j_12 => bnd (imin x3 (st 0 j_12)) fun v_13 => f_X6_yearOf_L29 N x1 x2 x4 st k n v_13 (x5 + 1) else f_X6_yearOf_L29 N x1 x2 x4 st k n x3 (x5 + 1)
def f_X6_yearOf (N : Nat) (st : St) (x1 : Int32) (x2 : Bool) : Option (Int32) := if b2i x2 = 0 then ck 116 (42 + x1) fun j_2 => bnd (st 0 j_2) fun v_3 => bd1 (f_X6_below N st x1) fun r_5 => f_X6_yearOf_L29 N x1 x2 r_5 st (fun a_29 a_30 => some a_29) N v_3 0 else ck 116 (52 + x1) fun j_31 => bnd (st 0 j_31) fun v_32 => bd1 (f_X6_below N st x1) fun r_34 => f_X6_yearOf_L29 N x1 x2 r_34 st (fun a_35 a_36 => some a_35) N v_32 0
set_option maxHeartbeats 4000000 in
set_option maxRecDepth 100000 in
theorem wl_X6_yearOf_L29 {p : Program} {l : Launch} {e : Env} {s : State} {m : MethodId} {args : Array Value} {below : List Frame} {meth : Method} {c : Code} {Q : State → Prop} {A : Nat → Prop} {g : GP} {X : va_W} {am : Nat → Nat} {r : Int32}  (C : Cx p s m args c cX6_yearOf 6 wsX6_yearOf RX6 g A) (st : St) (hret : RetI p l e rmX6_yearOf s m args below meth c Q cX6_yearOf g A (wMX g X am st) (r)) (N : Nat) (x1 : Int32) (x2 : Bool) (x4 : Int32)  (k : Int32 → Int32 → Option (Int32)) (hk : ∀ (x3 : Int32) (x5 : Int32) (H : Heap) (locs : List Loc) (ls : Array Slot), k x3 x5 = some r → IW g A s.heap (wMX g X am st) H locs → lv_has ls 6 [(0, .ref (am 0)), (1, .int x1), (2, .int (b2i x2)), (3, .int x3), (4, .int x4), (5, .int x5)] → W p l e rmX6_yearOf s m args below meth c H locs 0 0 Q (F0 m 109 ls [])) : ∀ (n : Nat) (x3 : Int32) (x5 : Int32) (H : Heap) (locs : List Loc) (ls : Array Slot), f_X6_yearOf_L29 N x1 x2 x4 st k n x3 x5 = some r → IW g A s.heap (wMX g X am st) H locs → lv_has ls 6 [(0, .ref (am 0)), (1, .int x1), (2, .int (b2i x2)), (3, .int x3), (4, .int x4), (5, .int x5)] → W p l e rmX6_yearOf s m args below meth c H locs 0 0 Q (F0 m 29 ls []) := by
  obtain ⟨hx, hb, hml, hown, hts⟩ := id C.1
  have hinRX6 : ∀ w ∈ u_ws RX6 TX6 16, w ∈ wsX6_yearOf := by decide +kernel
  have lk9 := hts (.fieldLink RX6 9 "GraveRowsModel" "now" "[I") (by decide +kernel)
  have ml143 := hts (.methodLink RX6 143 Lib.Math.min.name) (by decide +kernel)
  have msmin := hts (.static Lib.Math.min.name) (by decide +kernel)
  have mini := hts (.initialized "java/lang/Math") (by decide +kernel)
  have mcmin := hts (.code Lib.Math.min.name Lib.Math.min.code 2 (some .int)) (by decide +kernel)
  have ml73 := hts (.methodLink RX6 73 Lib.Math.max.name) (by decide +kernel)
  have msmax := hts (.static Lib.Math.max.name) (by decide +kernel)
  have mcmax := hts (.code Lib.Math.max.name Lib.Math.max.code 2 (some .int)) (by decide +kernel)
  intro n
  induction n with
  | zero =>
    intro x3 x5 H locs ls h hI hl
    rw [f_X6_yearOf_L29] at h
    cases h
  | succ n ih =>
    intro x3 x5 H locs ls h hI hl
    rw [f_X6_yearOf_L29] at h
    refine lv_iload hx hb dX6_yearOf_29 (lv_at hl 5 rfl) ?_
    refine lv_aload_n hx hb dX6_yearOf_31 rfl (lv_at hl 0 rfl) ?_
    refine w_get (v := .ref (am 1)) C hinRX6 hI X.length wM_ob rfl 0 (by decide) lk9 rfl rfl dX6_yearOf_32 ?_
    refine lv_iconst (v := 0) hx hb dX6_yearOf_35 (by decide) ?_
    refine w_ldK C hI (X.length + (0 + 1)) (wM_ar (by decide)) 0 (by decide) (by decide) dX6_yearOf_36 ?_
    refine lv_icmp_ge (tgt := 109) hx hb dX6_yearOf_37 (by decide) (fun c_6 => ?_) (fun c_6 => ?_)
    · replace h := (if_pos c_6).symm.trans h
      exact hk _ _ _ _ _ h hI (lv_sub hl [0, 1, 2, 3, 4, 5] rfl)
    · replace h := (if_neg c_6).symm.trans h
      refine lv_iload_n hx hb dX6_yearOf_40 rfl (lv_at hl 2 rfl) ?_
      refine lv_if_ne (tgt := 70) hx hb dX6_yearOf_41 (by decide) (fun c_7 => ?_) (fun c_7 => ?_)
      · replace h := (if_neg c_7).symm.trans h
        refine lv_iload_n hx hb dX6_yearOf_70 rfl (lv_at hl 2 rfl) ?_
        refine lv_if_eq (tgt := 103) hx hb dX6_yearOf_71 (by decide) (fun c_8 => ?_) (fun c_8 => ?_)
        · replace h := (if_pos c_8).symm.trans h
          refine lv_iinc (v := x5 + 1) (lv' := [(5, .int (x5 + 1)), (0, .ref (am 0)), (1, .int x1), (2, .int (b2i x2)), (3, .int x3), (4, .int x4)]) hx hb dX6_yearOf_103 hl (k := 5) rfl rfl (by decide) rfl (fun ls hl => ?_)
          refine lv_goto (tgt := 29) hx hb dX6_yearOf_106 (by decide) ?_
          exact ih _ _ _ _ _ h hI (lv_sub hl [1, 2, 3, 4, 5, 0] rfl)
        · replace h := (if_neg c_8).symm.trans h
          refine lv_aload_n hx hb dX6_yearOf_74 rfl (lv_at hl 0 rfl) ?_
          refine lv_iload hx hb dX6_yearOf_75 (lv_at hl 5 rfl) ?_
          obtain ⟨r_10, hr_9, h⟩ := bd1_some h
          refine callV_I (rest := []) C hI (c_X6_below l g X am N x5 st hr_9) (cwV 1 hts gX6_yearOf_X6_below rfl rfl rfl hv_X6_below ⟨Nat.le_of_ble_eq_true rfl, Nat.le_of_ble_eq_true rfl⟩) (w_recv C hI X.length wM_ob rfl) rfl hl.1 rfl (Nat.le_of_ble_eq_true rfl) dX6_yearOf_77 (fun H locs hI => ?_)
          refine lv_iload_n hx hb dX6_yearOf_80 rfl (lv_at hl 1 rfl) ?_
          refine lv_ishr hx hb dX6_yearOf_81 ?_
          refine lv_iconst (v := 1) hx hb dX6_yearOf_82 (by decide) ?_
          refine lv_iand hx hb dX6_yearOf_83 ?_
          refine lv_iconst (v := 1) hx hb dX6_yearOf_84 (by decide) ?_
          refine lv_icmp_ne (tgt := 103) hx hb dX6_yearOf_85 (by decide) (fun c_11 => ?_) (fun c_11 => ?_)
          · replace h := (if_neg c_11).symm.trans h
            refine lv_iinc (v := x5 + 1) (lv' := [(5, .int (x5 + 1)), (0, .ref (am 0)), (1, .int x1), (2, .int (b2i x2)), (3, .int x3), (4, .int x4)]) hx hb dX6_yearOf_103 hl (k := 5) rfl rfl (by decide) rfl (fun ls hl => ?_)
            refine lv_goto (tgt := 29) hx hb dX6_yearOf_106 (by decide) ?_
            exact ih _ _ _ _ _ h hI (lv_sub hl [1, 2, 3, 4, 5, 0] rfl)
          · replace h := (if_pos c_11).symm.trans h
            refine lv_iload_n hx hb dX6_yearOf_88 rfl (lv_at hl 3 rfl) ?_
            refine lv_aload_n hx hb dX6_yearOf_89 rfl (lv_at hl 0 rfl) ?_
            refine w_get (v := .ref (am 1)) C hinRX6 hI X.length wM_ob rfl 0 (by decide) lk9 rfl rfl dX6_yearOf_90 ?_
            refine lv_bipush (v := 52) hx hb dX6_yearOf_93 (by decide) ?_
            refine lv_iload hx hb dX6_yearOf_95 (lv_at hl 5 rfl) ?_
            refine lv_iadd hx hb dX6_yearOf_97 ?_
            refine w_ld C hI (X.length + (0 + 1)) (wM_ar (by decide)) h dX6_yearOf_98 (fun j_12 hj_12 h => ?_)
            refine w_mmin hx hb (hml.trans hl.1.symm) hown ml143 msmin mini mcmin (Nat.le_of_ble_eq_true rfl) (Nat.le_of_ble_eq_true rfl) dX6_yearOf_99 ?_
            refine gen_i h (fun v_13 h => ?_)
            refine lv_istore_n (lv' := [(3, .int v_13), (0, .ref (am 0)), (1, .int x1), (2, .int (b2i x2)), (4, .int x4), (5, .int x5)]) hx hb dX6_yearOf_102 rfl hl (by decide) rfl (fun ls hl => ?_)
            refine lv_iinc (v := x5 + 1) (lv' := [(5, .int (x5 + 1)), (3, .int v_13), (0, .ref (am 0)), (1, .int x1), (2, .int (b2i x2)), (4, .int x4)]) hx hb dX6_yearOf_103 hl (k := 5) rfl rfl (by decide) rfl (fun ls hl => ?_)
            refine lv_goto (tgt := 29) hx hb dX6_yearOf_106 (by decide) ?_
            exact ih _ _ _ _ _ h hI (lv_sub hl [2, 3, 4, 1, 5, 0] rfl)
      · replace h := (if_pos c_7).symm.trans h
        refine lv_iload hx hb dX6_yearOf_44 (lv_at hl 4 rfl) ?_
        refine lv_iload hx hb dX6_yearOf_46 (lv_at hl 5 rfl) ?_
        refine lv_ishr hx hb dX6_yearOf_48 ?_
        refine lv_iconst (v := 1) hx hb dX6_yearOf_49 (by decide) ?_
        refine lv_iand hx hb dX6_yearOf_50 ?_
        refine lv_iconst (v := 1) hx hb dX6_yearOf_51 (by decide) ?_
        refine lv_icmp_ne (tgt := 70) hx hb dX6_yearOf_52 (by decide) (fun c_14 => ?_) (fun c_14 => ?_)
        · replace h := (if_neg c_14).symm.trans h
          refine lv_iload_n hx hb dX6_yearOf_70 rfl (lv_at hl 2 rfl) ?_
          refine lv_if_eq (tgt := 103) hx hb dX6_yearOf_71 (by decide) (fun c_15 => ?_) (fun c_15 => ?_)
          · replace h := (if_pos c_15).symm.trans h
            refine lv_iinc (v := x5 + 1) (lv' := [(5, .int (x5 + 1)), (0, .ref (am 0)), (1, .int x1), (2, .int (b2i x2)), (3, .int x3), (4, .int x4)]) hx hb dX6_yearOf_103 hl (k := 5) rfl rfl (by decide) rfl (fun ls hl => ?_)
            refine lv_goto (tgt := 29) hx hb dX6_yearOf_106 (by decide) ?_
            exact ih _ _ _ _ _ h hI (lv_sub hl [1, 2, 3, 4, 5, 0] rfl)
          · replace h := (if_neg c_15).symm.trans h
            refine lv_aload_n hx hb dX6_yearOf_74 rfl (lv_at hl 0 rfl) ?_
            refine lv_iload hx hb dX6_yearOf_75 (lv_at hl 5 rfl) ?_
            obtain ⟨r_17, hr_16, h⟩ := bd1_some h
            refine callV_I (rest := []) C hI (c_X6_below l g X am N x5 st hr_16) (cwV 1 hts gX6_yearOf_X6_below rfl rfl rfl hv_X6_below ⟨Nat.le_of_ble_eq_true rfl, Nat.le_of_ble_eq_true rfl⟩) (w_recv C hI X.length wM_ob rfl) rfl hl.1 rfl (Nat.le_of_ble_eq_true rfl) dX6_yearOf_77 (fun H locs hI => ?_)
            refine lv_iload_n hx hb dX6_yearOf_80 rfl (lv_at hl 1 rfl) ?_
            refine lv_ishr hx hb dX6_yearOf_81 ?_
            refine lv_iconst (v := 1) hx hb dX6_yearOf_82 (by decide) ?_
            refine lv_iand hx hb dX6_yearOf_83 ?_
            refine lv_iconst (v := 1) hx hb dX6_yearOf_84 (by decide) ?_
            refine lv_icmp_ne (tgt := 103) hx hb dX6_yearOf_85 (by decide) (fun c_18 => ?_) (fun c_18 => ?_)
            · replace h := (if_neg c_18).symm.trans h
              refine lv_iinc (v := x5 + 1) (lv' := [(5, .int (x5 + 1)), (0, .ref (am 0)), (1, .int x1), (2, .int (b2i x2)), (3, .int x3), (4, .int x4)]) hx hb dX6_yearOf_103 hl (k := 5) rfl rfl (by decide) rfl (fun ls hl => ?_)
              refine lv_goto (tgt := 29) hx hb dX6_yearOf_106 (by decide) ?_
              exact ih _ _ _ _ _ h hI (lv_sub hl [1, 2, 3, 4, 5, 0] rfl)
            · replace h := (if_pos c_18).symm.trans h
              refine lv_iload_n hx hb dX6_yearOf_88 rfl (lv_at hl 3 rfl) ?_
              refine lv_aload_n hx hb dX6_yearOf_89 rfl (lv_at hl 0 rfl) ?_
              refine w_get (v := .ref (am 1)) C hinRX6 hI X.length wM_ob rfl 0 (by decide) lk9 rfl rfl dX6_yearOf_90 ?_
              refine lv_bipush (v := 52) hx hb dX6_yearOf_93 (by decide) ?_
              refine lv_iload hx hb dX6_yearOf_95 (lv_at hl 5 rfl) ?_
              refine lv_iadd hx hb dX6_yearOf_97 ?_
              refine w_ld C hI (X.length + (0 + 1)) (wM_ar (by decide)) h dX6_yearOf_98 (fun j_19 hj_19 h => ?_)
              refine w_mmin hx hb (hml.trans hl.1.symm) hown ml143 msmin mini mcmin (Nat.le_of_ble_eq_true rfl) (Nat.le_of_ble_eq_true rfl) dX6_yearOf_99 ?_
              refine gen_i h (fun v_20 h => ?_)
              refine lv_istore_n (lv' := [(3, .int v_20), (0, .ref (am 0)), (1, .int x1), (2, .int (b2i x2)), (4, .int x4), (5, .int x5)]) hx hb dX6_yearOf_102 rfl hl (by decide) rfl (fun ls hl => ?_)
              refine lv_iinc (v := x5 + 1) (lv' := [(5, .int (x5 + 1)), (3, .int v_20), (0, .ref (am 0)), (1, .int x1), (2, .int (b2i x2)), (4, .int x4)]) hx hb dX6_yearOf_103 hl (k := 5) rfl rfl (by decide) rfl (fun ls hl => ?_)
              refine lv_goto (tgt := 29) hx hb dX6_yearOf_106 (by decide) ?_
              exact ih _ _ _ _ _ h hI (lv_sub hl [2, 3, 4, 1, 5, 0] rfl)
        · replace h := (if_pos c_14).symm.trans h
          refine lv_iload_n hx hb dX6_yearOf_55 rfl (lv_at hl 3 rfl) ?_
          refine lv_aload_n hx hb dX6_yearOf_56 rfl (lv_at hl 0 rfl) ?_
          refine w_get (v := .ref (am 1)) C hinRX6 hI X.length wM_ob rfl 0 (by decide) lk9 rfl rfl dX6_yearOf_57 ?_
          refine lv_bipush (v := 42) hx hb dX6_yearOf_60 (by decide) ?_
          refine lv_iload hx hb dX6_yearOf_62 (lv_at hl 5 rfl) ?_
          refine lv_iadd hx hb dX6_yearOf_64 ?_
          refine w_ld C hI (X.length + (0 + 1)) (wM_ar (by decide)) h dX6_yearOf_65 (fun j_21 hj_21 h => ?_)
          refine w_mmax hx hb (hml.trans hl.1.symm) hown ml73 msmax mini mcmax (Nat.le_of_ble_eq_true rfl) (Nat.le_of_ble_eq_true rfl) dX6_yearOf_66 ?_
          refine gen_i h (fun v_22 h => ?_)
          refine lv_istore_n (lv' := [(3, .int v_22), (0, .ref (am 0)), (1, .int x1), (2, .int (b2i x2)), (4, .int x4), (5, .int x5)]) hx hb dX6_yearOf_69 rfl hl (by decide) rfl (fun ls hl => ?_)
          refine lv_iload_n hx hb dX6_yearOf_70 rfl (lv_at hl 3 rfl) ?_
          refine lv_if_eq (tgt := 103) hx hb dX6_yearOf_71 (by decide) (fun c_23 => ?_) (fun c_23 => ?_)
          · replace h := (if_pos c_23).symm.trans h
            refine lv_iinc (v := x5 + 1) (lv' := [(5, .int (x5 + 1)), (3, .int v_22), (0, .ref (am 0)), (1, .int x1), (2, .int (b2i x2)), (4, .int x4)]) hx hb dX6_yearOf_103 hl (k := 5) rfl rfl (by decide) rfl (fun ls hl => ?_)
            refine lv_goto (tgt := 29) hx hb dX6_yearOf_106 (by decide) ?_
            exact ih _ _ _ _ _ h hI (lv_sub hl [2, 3, 4, 1, 5, 0] rfl)
          · replace h := (if_neg c_23).symm.trans h
            refine lv_aload_n hx hb dX6_yearOf_74 rfl (lv_at hl 1 rfl) ?_
            refine lv_iload hx hb dX6_yearOf_75 (lv_at hl 5 rfl) ?_
            obtain ⟨r_25, hr_24, h⟩ := bd1_some h
            refine callV_I (rest := []) C hI (c_X6_below l g X am N x5 st hr_24) (cwV 1 hts gX6_yearOf_X6_below rfl rfl rfl hv_X6_below ⟨Nat.le_of_ble_eq_true rfl, Nat.le_of_ble_eq_true rfl⟩) (w_recv C hI X.length wM_ob rfl) rfl hl.1 rfl (Nat.le_of_ble_eq_true rfl) dX6_yearOf_77 (fun H locs hI => ?_)
            refine lv_iload_n hx hb dX6_yearOf_80 rfl (lv_at hl 2 rfl) ?_
            refine lv_ishr hx hb dX6_yearOf_81 ?_
            refine lv_iconst (v := 1) hx hb dX6_yearOf_82 (by decide) ?_
            refine lv_iand hx hb dX6_yearOf_83 ?_
            refine lv_iconst (v := 1) hx hb dX6_yearOf_84 (by decide) ?_
            refine lv_icmp_ne (tgt := 103) hx hb dX6_yearOf_85 (by decide) (fun c_26 => ?_) (fun c_26 => ?_)
            · replace h := (if_neg c_26).symm.trans h
              refine lv_iinc (v := x5 + 1) (lv' := [(5, .int (x5 + 1)), (3, .int v_22), (0, .ref (am 0)), (1, .int x1), (2, .int (b2i x2)), (4, .int x4)]) hx hb dX6_yearOf_103 hl (k := 5) rfl rfl (by decide) rfl (fun ls hl => ?_)
              refine lv_goto (tgt := 29) hx hb dX6_yearOf_106 (by decide) ?_
              exact ih _ _ _ _ _ h hI (lv_sub hl [2, 3, 4, 1, 5, 0] rfl)
            · replace h := (if_pos c_26).symm.trans h
              refine lv_iload_n hx hb dX6_yearOf_88 rfl (lv_at hl 0 rfl) ?_
              refine lv_aload_n hx hb dX6_yearOf_89 rfl (lv_at hl 1 rfl) ?_
              refine w_get (v := .ref (am 1)) C hinRX6 hI X.length wM_ob rfl 0 (by decide) lk9 rfl rfl dX6_yearOf_90 ?_
              refine lv_bipush (v := 52) hx hb dX6_yearOf_93 (by decide) ?_
              refine lv_iload hx hb dX6_yearOf_95 (lv_at hl 5 rfl) ?_
              refine lv_iadd hx hb dX6_yearOf_97 ?_
              refine w_ld C hI (X.length + (0 + 1)) (wM_ar (by decide)) h dX6_yearOf_98 (fun j_27 hj_27 h => ?_)
              refine w_mmin hx hb (hml.trans hl.1.symm) hown ml143 msmin mini mcmin (Nat.le_of_ble_eq_true rfl) (Nat.le_of_ble_eq_true rfl) dX6_yearOf_99 ?_
              refine gen_i h (fun v_28 h => ?_)
              refine lv_istore_n (lv' := [(3, .int v_28), (0, .ref (am 0)), (1, .int x1), (2, .int (b2i x2)), (4, .int x4), (5, .int x5)]) hx hb dX6_yearOf_102 rfl hl (by decide) rfl (fun ls hl => ?_)
              refine lv_iinc (v := x5 + 1) (lv' := [(5, .int (x5 + 1)), (3, .int v_28), (0, .ref (am 0)), (1, .int x1), (2, .int (b2i x2)), (4, .int x4)]) hx hb dX6_yearOf_103 hl (k := 5) rfl rfl (by decide) rfl (fun ls hl => ?_)
              refine lv_goto (tgt := 29) hx hb dX6_yearOf_106 (by decide) ?_
              exact ih _ _ _ _ _ h hI (lv_sub hl [2, 3, 4, 1, 5, 0] rfl)
set_option maxHeartbeats 4000000 in
set_option maxRecDepth 100000 in
theorem c_X6_yearOf (l : Launch) (g : GP) (X : va_W) (am : Nat → Nat) (N : Nat) (x1 : Int32) (x2 : Bool)  (st : St) {r : Int32}  (h : f_X6_yearOf N st x1 x2 = some r) : MetI l yX6_yearOf wsX6_yearOf rmX6_yearOf g (wMX g X am) [.ref (am 0), .int x1, .int (b2i x2)] st (r) st := by
  refine metI_of (cc := cX6_yearOf) (nL := 6) (ty := .int) (by decide) rfl (Nat.le_of_ble_eq_true rfl) rfl ?_
  intro p e s m below meth c Q A C hret H locs hI ls hl
  have C : Cx p s m _ c cX6_yearOf 6 wsX6_yearOf RX6 g A := C
  obtain ⟨hx, hb, hml, hown, hts⟩ := id C.1
  have hl : lv_has ls 6 [(0, .ref (am 0)), (1, .int x1), (2, .int (b2i x2))] := hl
  have hinRX6 : ∀ w ∈ u_ws RX6 TX6 16, w ∈ wsX6_yearOf := by decide +kernel
  have lk9 := hts (.fieldLink RX6 9 "GraveRowsModel" "now" "[I") (by decide +kernel)
  rw [f_X6_yearOf] at h
  refine lv_aload_n hx hb dX6_yearOf_0 rfl (lv_at hl 0 rfl) ?_
  refine w_get (v := .ref (am 1)) C hinRX6 hI X.length wM_ob rfl 0 (by decide) lk9 rfl rfl dX6_yearOf_1 ?_
  refine lv_iload_n hx hb dX6_yearOf_4 rfl (lv_at hl 2 rfl) ?_
  refine lv_if_eq (tgt := 13) hx hb dX6_yearOf_5 (by decide) (fun c_1 => ?_) (fun c_1 => ?_)
  · replace h := (if_pos c_1).symm.trans h
    refine lv_bipush (v := 42) hx hb dX6_yearOf_13 (by decide) ?_
    refine lv_iload_n hx hb dX6_yearOf_15 rfl (lv_at hl 1 rfl) ?_
    refine lv_iadd hx hb dX6_yearOf_16 ?_
    refine w_ld C hI (X.length + (0 + 1)) (wM_ar (by decide)) h dX6_yearOf_17 (fun j_2 hj_2 h => ?_)
    refine gen_i h (fun v_3 h => ?_)
    refine lv_istore_n (lv' := [(3, .int v_3), (0, .ref (am 0)), (1, .int x1), (2, .int (b2i x2))]) hx hb dX6_yearOf_18 rfl hl (by decide) rfl (fun ls hl => ?_)
    refine lv_aload_n hx hb dX6_yearOf_19 rfl (lv_at hl 1 rfl) ?_
    refine lv_iload_n hx hb dX6_yearOf_20 rfl (lv_at hl 2 rfl) ?_
    obtain ⟨r_5, hr_4, h⟩ := bd1_some h
    refine callV_I (rest := []) C hI (c_X6_below l g X am N x1 st hr_4) (cwV 1 hts gX6_yearOf_X6_below rfl rfl rfl hv_X6_below ⟨Nat.le_of_ble_eq_true rfl, Nat.le_of_ble_eq_true rfl⟩) (w_recv C hI X.length wM_ob rfl) rfl hl.1 rfl (Nat.le_of_ble_eq_true rfl) dX6_yearOf_21 (fun H locs hI => ?_)
    refine lv_istore (lv' := [(4, .int r_5), (3, .int v_3), (0, .ref (am 0)), (1, .int x1), (2, .int (b2i x2))]) hx hb dX6_yearOf_24 hl (by decide) rfl (fun ls hl => ?_)
    refine lv_iconst (v := 0) hx hb dX6_yearOf_26 (by decide) ?_
    refine lv_istore (lv' := [(5, .int 0), (4, .int r_5), (3, .int v_3), (0, .ref (am 0)), (1, .int x1), (2, .int (b2i x2))]) hx hb dX6_yearOf_27 hl (by decide) rfl (fun ls hl => ?_)
    refine wl_X6_yearOf_L29 C st hret N x1 x2 r_5 _ (fun a_29 a_30 H locs ls h hI hl => ?_) N v_3 0 H locs ls h hI (lv_sub hl [3, 4, 5, 2, 1, 0] rfl)
    refine lv_iload_n hx hb dX6_yearOf_109 rfl (lv_at hl 3 rfl) ?_
    obtain rfl := ret1 h
    exact hret H locs _ ls hI dX6_yearOf_110
  · replace h := (if_neg c_1).symm.trans h
    refine lv_bipush (v := 52) hx hb dX6_yearOf_8 (by decide) ?_
    refine lv_goto (tgt := 15) hx hb dX6_yearOf_10 (by decide) ?_
    refine lv_iload_n hx hb dX6_yearOf_15 rfl (lv_at hl 1 rfl) ?_
    refine lv_iadd hx hb dX6_yearOf_16 ?_
    refine w_ld C hI (X.length + (0 + 1)) (wM_ar (by decide)) h dX6_yearOf_17 (fun j_31 hj_31 h => ?_)
    refine gen_i h (fun v_32 h => ?_)
    refine lv_istore_n (lv' := [(3, .int v_32), (0, .ref (am 0)), (1, .int x1), (2, .int (b2i x2))]) hx hb dX6_yearOf_18 rfl hl (by decide) rfl (fun ls hl => ?_)
    refine lv_aload_n hx hb dX6_yearOf_19 rfl (lv_at hl 1 rfl) ?_
    refine lv_iload_n hx hb dX6_yearOf_20 rfl (lv_at hl 2 rfl) ?_
    obtain ⟨r_34, hr_33, h⟩ := bd1_some h
    refine callV_I (rest := []) C hI (c_X6_below l g X am N x1 st hr_33) (cwV 1 hts gX6_yearOf_X6_below rfl rfl rfl hv_X6_below ⟨Nat.le_of_ble_eq_true rfl, Nat.le_of_ble_eq_true rfl⟩) (w_recv C hI X.length wM_ob rfl) rfl hl.1 rfl (Nat.le_of_ble_eq_true rfl) dX6_yearOf_21 (fun H locs hI => ?_)
    refine lv_istore (lv' := [(4, .int r_34), (3, .int v_32), (0, .ref (am 0)), (1, .int x1), (2, .int (b2i x2))]) hx hb dX6_yearOf_24 hl (by decide) rfl (fun ls hl => ?_)
    refine lv_iconst (v := 0) hx hb dX6_yearOf_26 (by decide) ?_
    refine lv_istore (lv' := [(5, .int 0), (4, .int r_34), (3, .int v_32), (0, .ref (am 0)), (1, .int x1), (2, .int (b2i x2))]) hx hb dX6_yearOf_27 hl (by decide) rfl (fun ls hl => ?_)
    refine wl_X6_yearOf_L29 C st hret N x1 x2 r_34 _ (fun a_35 a_36 H locs ls h hI hl => ?_) N v_32 0 H locs ls h hI (lv_sub hl [3, 4, 5, 2, 1, 0] rfl)
    refine lv_iload_n hx hb dX6_yearOf_109 rfl (lv_at hl 3 rfl) ?_
    obtain rfl := ret1 h
    exact hret H locs _ ls hI dX6_yearOf_110
theorem hv_X6_yearOf : yX6_yearOf.cls = RX6 ∧ yX6_yearOf.cls ≠ "java/lang/invoke/MethodHandle" ∧ yX6_yearOf.cls ≠ "java/lang/invoke/VarHandle" ∧ (parseMethodDescriptor yX6_yearOf.desc).map (fun d => d.parameters.length) = some 2 := by decide +kernel
/-! X6_year -/
def rmX6_year : Room := { frames := 2, cells := 0, slots := 0, locals := 49 }
def f_X6_year (N : Nat) (st : St) (x1 : Int32) (x2 : Bool) : Option (Int32 × St) := bnd (f_X6_isGrave st x1) fun r_1 => if b2i r_1 = 0 then bd2 (f_X6_finding st (-100001 : Int32)) fun r_4 st_5 => some (r_4, st_5) else bd1 (f_X6_yearOf N st x1 x2) fun r_7 => some (r_7, st)
set_option maxHeartbeats 4000000 in
set_option maxRecDepth 100000 in
theorem c_X6_year (l : Launch) (g : GP) (X : va_W) (am : Nat → Nat) (N : Nat) (x1 : Int32) (x2 : Bool)  (st : St) {r : Int32} {st' : St} (h : f_X6_year N st x1 x2 = some (r, st')) : MetI l yX6_year wsX6_year rmX6_year g (wMX g X am) [.ref (am 0), .int x1, .int (b2i x2)] st (r) st' := by
  refine metI_of (cc := cX6_year) (nL := 3) (ty := .int) (by decide) rfl (Nat.le_of_ble_eq_true rfl) rfl ?_
  intro p e s m below meth c Q A C hret H locs hI ls hl
  have C : Cx p s m _ c cX6_year 3 wsX6_year RX6 g A := C
  obtain ⟨hx, hb, hml, hown, hts⟩ := id C.1
  have hl : lv_has ls 3 [(0, .ref (am 0)), (1, .int x1), (2, .int (b2i x2))] := hl
  have lc48 := hts (.constant RX6 48 (-100001)) (by decide +kernel)
  rw [f_X6_year] at h
  refine lv_aload_n hx hb dX6_year_0 rfl (lv_at hl 0 rfl) ?_
  refine lv_iload_n hx hb dX6_year_1 rfl (lv_at hl 1 rfl) ?_
  refine callV_I (rest := []) C hI (c_X6_isGrave l g X am x1 st) (cwV 1 hts gX6_year_X6_isGrave rfl rfl rfl hv_X6_isGrave ⟨Nat.le_of_ble_eq_true rfl, Nat.le_of_ble_eq_true rfl⟩) (w_recv C hI X.length wM_ob rfl) rfl hl.1 rfl (Nat.le_of_ble_eq_true rfl) dX6_year_2 (fun H locs hI => ?_)
  refine gen_b h (fun r_1 h => ?_)
  refine lv_if_eq (tgt := 17) hx hb dX6_year_5 (by decide) (fun c_2 => ?_) (fun c_2 => ?_)
  · replace h := (if_pos c_2).symm.trans h
    refine lv_aload_n hx hb dX6_year_17 rfl (lv_at hl 0 rfl) ?_
    refine lv_ldc (v := (-100001)) hx hb hown lc48 dX6_year_18 ?_
    obtain ⟨r_4, st_5, hr_3, h⟩ := bd2_some h
    refine callV_I (rest := []) C hI (c_X6_finding l g X am (-100001 : Int32) st hr_3) (cwV 1 hts gX6_year_X6_finding rfl rfl rfl hv_X6_finding ⟨Nat.le_of_ble_eq_true rfl, Nat.le_of_ble_eq_true rfl⟩) (w_recv C hI X.length wM_ob rfl) rfl hl.1 rfl (Nat.le_of_ble_eq_true rfl) dX6_year_20 (fun H locs hI => ?_)
    obtain ⟨rfl, rfl⟩ := ret2 h
    exact hret H locs _ ls hI dX6_year_23
  · replace h := (if_neg c_2).symm.trans h
    refine lv_aload_n hx hb dX6_year_8 rfl (lv_at hl 0 rfl) ?_
    refine lv_iload_n hx hb dX6_year_9 rfl (lv_at hl 1 rfl) ?_
    refine lv_iload_n hx hb dX6_year_10 rfl (lv_at hl 2 rfl) ?_
    obtain ⟨r_7, hr_6, h⟩ := bd1_some h
    refine callV_I (rest := []) C hI (c_X6_yearOf l g X am N x1 x2 st hr_6) (cwV 2 hts gX6_year_X6_yearOf rfl rfl rfl hv_X6_yearOf ⟨Nat.le_of_ble_eq_true rfl, Nat.le_of_ble_eq_true rfl⟩) (w_recv C hI X.length wM_ob rfl) rfl hl.1 rfl (Nat.le_of_ble_eq_true rfl) dX6_year_11 (fun H locs hI => ?_)
    refine lv_goto (tgt := 23) hx hb dX6_year_14 (by decide) ?_
    obtain ⟨rfl, rfl⟩ := ret2 h
    exact hret H locs _ ls hI dX6_year_23
theorem hv_X6_year : yX6_year.cls = RX6 ∧ yX6_year.cls ≠ "java/lang/invoke/MethodHandle" ∧ yX6_year.cls ≠ "java/lang/invoke/VarHandle" ∧ (parseMethodDescriptor yX6_year.desc).map (fun d => d.parameters.length) = some 2 := by decide +kernel
/-! X6_wrong -/
def rmX6_wrong : Room := { frames := 2, cells := 0, slots := 0, locals := 49 }
def f_X6_wrong_L2 (N : Nat) (st : St) (k : Int32 → Option (Int32)) : Nat → Int32 → Option (Int32)
  | 0, _ => none
  | n + 1, x1 => if st 0 0 ≤ x1 then k x1 else bd1 (f_X6_yearOf N st x1 false) fun r_3 => bd1 (f_X6_yearOf N st x1 true) fun r_5 => if r_3 ≤ r_5 then f_X6_wrong_L2 N st k n (x1 + 1) else some x1
def f_X6_wrong (N : Nat) (st : St) : Option (Int32) := f_X6_wrong_L2 N st (fun a_7 => some (-1 : Int32)) N 0
set_option maxHeartbeats 4000000 in
set_option maxRecDepth 100000 in
theorem wl_X6_wrong_L2 {p : Program} {l : Launch} {e : Env} {s : State} {m : MethodId} {args : Array Value} {below : List Frame} {meth : Method} {c : Code} {Q : State → Prop} {A : Nat → Prop} {g : GP} {X : va_W} {am : Nat → Nat} {r : Int32}  (C : Cx p s m args c cX6_wrong 2 wsX6_wrong RX6 g A) (st : St) (hret : RetI p l e rmX6_wrong s m args below meth c Q cX6_wrong g A (wMX g X am st) (r)) (N : Nat)  (k : Int32 → Option (Int32)) (hk : ∀ (x1 : Int32) (H : Heap) (locs : List Loc) (ls : Array Slot), k x1 = some r → IW g A s.heap (wMX g X am st) H locs → lv_has ls 2 [(0, .ref (am 0)), (1, .int x1)] → W p l e rmX6_wrong s m args below meth c H locs 0 0 Q (F0 m 35 ls [])) : ∀ (n : Nat) (x1 : Int32) (H : Heap) (locs : List Loc) (ls : Array Slot), f_X6_wrong_L2 N st k n x1 = some r → IW g A s.heap (wMX g X am st) H locs → lv_has ls 2 [(0, .ref (am 0)), (1, .int x1)] → W p l e rmX6_wrong s m args below meth c H locs 0 0 Q (F0 m 2 ls []) := by
  obtain ⟨hx, hb, hml, hown, hts⟩ := id C.1
  have hinRX6 : ∀ w ∈ u_ws RX6 TX6 16, w ∈ wsX6_wrong := by decide +kernel
  have lk9 := hts (.fieldLink RX6 9 "GraveRowsModel" "now" "[I") (by decide +kernel)
  intro n
  induction n with
  | zero =>
    intro x1 H locs ls h hI hl
    rw [f_X6_wrong_L2] at h
    cases h
  | succ n ih =>
    intro x1 H locs ls h hI hl
    rw [f_X6_wrong_L2] at h
    refine lv_iload_n hx hb dX6_wrong_2 rfl (lv_at hl 1 rfl) ?_
    refine lv_aload_n hx hb dX6_wrong_3 rfl (lv_at hl 0 rfl) ?_
    refine w_get (v := .ref (am 1)) C hinRX6 hI X.length wM_ob rfl 0 (by decide) lk9 rfl rfl dX6_wrong_4 ?_
    refine lv_iconst (v := 0) hx hb dX6_wrong_7 (by decide) ?_
    refine w_ldK C hI (X.length + (0 + 1)) (wM_ar (by decide)) 0 (by decide) (by decide) dX6_wrong_8 ?_
    refine lv_icmp_ge (tgt := 35) hx hb dX6_wrong_9 (by decide) (fun c_1 => ?_) (fun c_1 => ?_)
    · replace h := (if_pos c_1).symm.trans h
      exact hk _ _ _ _ h hI (lv_sub hl [0, 1] rfl)
    · replace h := (if_neg c_1).symm.trans h
      refine lv_aload_n hx hb dX6_wrong_12 rfl (lv_at hl 0 rfl) ?_
      refine lv_iload_n hx hb dX6_wrong_13 rfl (lv_at hl 1 rfl) ?_
      refine lv_iconst (v := 0) hx hb dX6_wrong_14 (by decide) ?_
      obtain ⟨r_3, hr_2, h⟩ := bd1_some h
      refine callV_I (rest := []) C hI (c_X6_yearOf l g X am N x1 false st hr_2) (cwV 2 hts gX6_wrong_X6_yearOf rfl rfl rfl hv_X6_yearOf ⟨Nat.le_of_ble_eq_true rfl, Nat.le_of_ble_eq_true rfl⟩) (w_recv C hI X.length wM_ob rfl) rfl hl.1 rfl (Nat.le_of_ble_eq_true rfl) dX6_wrong_15 (fun H locs hI => ?_)
      refine lv_aload_n hx hb dX6_wrong_18 rfl (lv_at hl 0 rfl) ?_
      refine lv_iload_n hx hb dX6_wrong_19 rfl (lv_at hl 1 rfl) ?_
      refine lv_iconst (v := 1) hx hb dX6_wrong_20 (by decide) ?_
      obtain ⟨r_5, hr_4, h⟩ := bd1_some h
      refine callV_I (rest := [.int r_3]) C hI (c_X6_yearOf l g X am N x1 true st hr_4) (cwV 2 hts gX6_wrong_X6_yearOf rfl rfl rfl hv_X6_yearOf ⟨Nat.le_of_ble_eq_true rfl, Nat.le_of_ble_eq_true rfl⟩) (w_recv C hI X.length wM_ob rfl) rfl hl.1 rfl (Nat.le_of_ble_eq_true rfl) dX6_wrong_21 (fun H locs hI => ?_)
      refine lv_icmp_le (tgt := 29) hx hb dX6_wrong_24 (by decide) (fun c_6 => ?_) (fun c_6 => ?_)
      · replace h := (if_pos c_6).symm.trans h
        refine lv_iinc (v := x1 + 1) (lv' := [(1, .int (x1 + 1)), (0, .ref (am 0))]) hx hb dX6_wrong_29 hl (k := 1) rfl rfl (by decide) rfl (fun ls hl => ?_)
        refine lv_goto (tgt := 2) hx hb dX6_wrong_32 (by decide) ?_
        exact ih _ _ _ _ h hI (lv_sub hl [1, 0] rfl)
      · replace h := (if_neg c_6).symm.trans h
        refine lv_iload_n hx hb dX6_wrong_27 rfl (lv_at hl 1 rfl) ?_
        obtain rfl := ret1 h
        exact hret H locs _ ls hI dX6_wrong_28
set_option maxHeartbeats 4000000 in
set_option maxRecDepth 100000 in
theorem c_X6_wrong (l : Launch) (g : GP) (X : va_W) (am : Nat → Nat) (N : Nat)  (st : St) {r : Int32}  (h : f_X6_wrong N st = some r) : MetI l yX6_wrong wsX6_wrong rmX6_wrong g (wMX g X am) [.ref (am 0)] st (r) st := by
  refine metI_of (cc := cX6_wrong) (nL := 2) (ty := .int) (by decide) rfl (Nat.le_of_ble_eq_true rfl) rfl ?_
  intro p e s m below meth c Q A C hret H locs hI ls hl
  have C : Cx p s m _ c cX6_wrong 2 wsX6_wrong RX6 g A := C
  obtain ⟨hx, hb, hml, hown, hts⟩ := id C.1
  have hl : lv_has ls 2 [(0, .ref (am 0))] := hl
  rw [f_X6_wrong] at h
  refine lv_iconst (v := 0) hx hb dX6_wrong_0 (by decide) ?_
  refine lv_istore_n (lv' := [(1, .int 0), (0, .ref (am 0))]) hx hb dX6_wrong_1 rfl hl (by decide) rfl (fun ls hl => ?_)
  refine wl_X6_wrong_L2 C st hret N _ (fun a_7 H locs ls h hI hl => ?_) N 0 H locs ls h hI (lv_sub hl [1, 0] rfl)
  refine lv_iconst (v := (-1)) hx hb dX6_wrong_35 (by decide) ?_
  obtain rfl := ret1 h
  exact hret H locs _ ls hI dX6_wrong_36
theorem hv_X6_wrong : yX6_wrong.cls = RX6 ∧ yX6_wrong.cls ≠ "java/lang/invoke/MethodHandle" ∧ yX6_wrong.cls ≠ "java/lang/invoke/VarHandle" ∧ (parseMethodDescriptor yX6_wrong.desc).map (fun d => d.parameters.length) = some 0 := by decide +kernel
/-! X6_in -/
def rmX6_in : Room := { frames := 2, cells := 0, slots := 0, locals := 49 }
def f_X6_in_L18 (N : Nat) (x1 : Int32) (st : St) (k : Int32 → Int32 → Option (Int32 × St)) : Nat → Int32 → Int32 → Option (Int32 × St)
  | 0, _, _ => none
  | n + 1, x2, x3 => if st 0 0 ≤ x3 then k x2 x3 else bd1 (f_X6_yearOf N st x3 false) fun r_5 => bd1 (f_X6_yearOf N st x3 true) fun r_7 => bnd (f_X6_within x1 r_5 r_7) fun r_8 => if b2i r_8 = 0 then bnd (x2 + 0) fun v_10 => f_X6_in_L18 N x1 st k n v_10 (x3 + 1) else bnd (x2 + 1) fun v_11 => f_X6_in_L18 N x1 st k n v_11 (x3 + 1)
def f_X6_in (N : Nat) (st : St) (x1 : Int32) : Option (Int32 × St) := bnd (f_X6_isYear x1) fun r_1 => if b2i r_1 = 0 then bd2 (f_X6_finding st (-100001 : Int32)) fun r_15 st_16 => some (r_15, st_16) else f_X6_in_L18 N x1 st (fun a_12 a_13 => some (a_12, st)) N 0 0
set_option maxHeartbeats 4000000 in
set_option maxRecDepth 100000 in
theorem wl_X6_in_L18 {p : Program} {l : Launch} {e : Env} {s : State} {m : MethodId} {args : Array Value} {below : List Frame} {meth : Method} {c : Code} {Q : State → Prop} {A : Nat → Prop} {g : GP} {X : va_W} {am : Nat → Nat} {r : Int32} {st' : St} (C : Cx p s m args c cX6_in 4 wsX6_in RX6 g A) (hret : RetI p l e rmX6_in s m args below meth c Q cX6_in g A (wMX g X am st') (r)) (N : Nat) (x1 : Int32) (st : St)  (k : Int32 → Int32 → Option (Int32 × St)) (hk : ∀ (x2 : Int32) (x3 : Int32) (H : Heap) (locs : List Loc) (ls : Array Slot), k x2 x3 = some (r, st') → IW g A s.heap (wMX g X am st) H locs → lv_has ls 4 [(0, .ref (am 0)), (1, .int x1), (2, .int x2), (3, .int x3)] → W p l e rmX6_in s m args below meth c H locs 0 0 Q (F0 m 61 ls [])) : ∀ (n : Nat) (x2 : Int32) (x3 : Int32) (H : Heap) (locs : List Loc) (ls : Array Slot), f_X6_in_L18 N x1 st k n x2 x3 = some (r, st') → IW g A s.heap (wMX g X am st) H locs → lv_has ls 4 [(0, .ref (am 0)), (1, .int x1), (2, .int x2), (3, .int x3)] → W p l e rmX6_in s m args below meth c H locs 0 0 Q (F0 m 18 ls []) := by
  obtain ⟨hx, hb, hml, hown, hts⟩ := id C.1
  have hinRX6 : ∀ w ∈ u_ws RX6 TX6 16, w ∈ wsX6_in := by decide +kernel
  have lk9 := hts (.fieldLink RX6 9 "GraveRowsModel" "now" "[I") (by decide +kernel)
  intro n
  induction n with
  | zero =>
    intro x2 x3 H locs ls h hI hl
    rw [f_X6_in_L18] at h
    cases h
  | succ n ih =>
    intro x2 x3 H locs ls h hI hl
    rw [f_X6_in_L18] at h
    refine lv_iload_n hx hb dX6_in_18 rfl (lv_at hl 3 rfl) ?_
    refine lv_aload_n hx hb dX6_in_19 rfl (lv_at hl 0 rfl) ?_
    refine w_get (v := .ref (am 1)) C hinRX6 hI X.length wM_ob rfl 0 (by decide) lk9 rfl rfl dX6_in_20 ?_
    refine lv_iconst (v := 0) hx hb dX6_in_23 (by decide) ?_
    refine w_ldK C hI (X.length + (0 + 1)) (wM_ar (by decide)) 0 (by decide) (by decide) dX6_in_24 ?_
    refine lv_icmp_ge (tgt := 61) hx hb dX6_in_25 (by decide) (fun c_3 => ?_) (fun c_3 => ?_)
    · replace h := (if_pos c_3).symm.trans h
      exact hk _ _ _ _ _ h hI (lv_sub hl [0, 1, 2, 3] rfl)
    · replace h := (if_neg c_3).symm.trans h
      refine lv_iload_n hx hb dX6_in_28 rfl (lv_at hl 2 rfl) ?_
      refine lv_iload_n hx hb dX6_in_29 rfl (lv_at hl 1 rfl) ?_
      refine lv_aload_n hx hb dX6_in_30 rfl (lv_at hl 0 rfl) ?_
      refine lv_iload_n hx hb dX6_in_31 rfl (lv_at hl 3 rfl) ?_
      refine lv_iconst (v := 0) hx hb dX6_in_32 (by decide) ?_
      obtain ⟨r_5, hr_4, h⟩ := bd1_some h
      refine callV_I (rest := [.int x1, .int x2]) C hI (c_X6_yearOf l g X am N x3 false st hr_4) (cwV 2 hts gX6_in_X6_yearOf rfl rfl rfl hv_X6_yearOf ⟨Nat.le_of_ble_eq_true rfl, Nat.le_of_ble_eq_true rfl⟩) (w_recv C hI X.length wM_ob rfl) rfl hl.1 rfl (Nat.le_of_ble_eq_true rfl) dX6_in_33 (fun H locs hI => ?_)
      refine lv_aload_n hx hb dX6_in_36 rfl (lv_at hl 0 rfl) ?_
      refine lv_iload_n hx hb dX6_in_37 rfl (lv_at hl 3 rfl) ?_
      refine lv_iconst (v := 1) hx hb dX6_in_38 (by decide) ?_
      obtain ⟨r_7, hr_6, h⟩ := bd1_some h
      refine callV_I (rest := [.int r_5, .int x1, .int x2]) C hI (c_X6_yearOf l g X am N x3 true st hr_6) (cwV 2 hts gX6_in_X6_yearOf rfl rfl rfl hv_X6_yearOf ⟨Nat.le_of_ble_eq_true rfl, Nat.le_of_ble_eq_true rfl⟩) (w_recv C hI X.length wM_ob rfl) rfl hl.1 rfl (Nat.le_of_ble_eq_true rfl) dX6_in_39 (fun H locs hI => ?_)
      refine callS_S (rest := [.int x2]) C.1 (c_X6_within l x1 r_5 r_7) (va_cwS 3 hts gX6_in_X6_within rfl rfl rfl hd_X6_within ⟨Nat.le_of_ble_eq_true rfl, Nat.le_of_ble_eq_true rfl⟩) rfl hl.1 rfl (Nat.le_of_ble_eq_true rfl) dX6_in_42 ?_
      refine gen_b h (fun r_8 h => ?_)
      refine lv_if_eq (tgt := 52) hx hb dX6_in_45 (by decide) (fun c_9 => ?_) (fun c_9 => ?_)
      · replace h := (if_pos c_9).symm.trans h
        refine lv_iconst (v := 0) hx hb dX6_in_52 (by decide) ?_
        refine lv_iadd hx hb dX6_in_53 ?_
        refine gen_i h (fun v_10 h => ?_)
        refine lv_istore_n (lv' := [(2, .int v_10), (0, .ref (am 0)), (1, .int x1), (3, .int x3)]) hx hb dX6_in_54 rfl hl (by decide) rfl (fun ls hl => ?_)
        refine lv_iinc (v := x3 + 1) (lv' := [(3, .int (x3 + 1)), (2, .int v_10), (0, .ref (am 0)), (1, .int x1)]) hx hb dX6_in_55 hl (k := 3) rfl rfl (by decide) rfl (fun ls hl => ?_)
        refine lv_goto (tgt := 18) hx hb dX6_in_58 (by decide) ?_
        exact ih _ _ _ _ _ h hI (lv_sub hl [2, 3, 1, 0] rfl)
      · replace h := (if_neg c_9).symm.trans h
        refine lv_iconst (v := 1) hx hb dX6_in_48 (by decide) ?_
        refine lv_goto (tgt := 53) hx hb dX6_in_49 (by decide) ?_
        refine lv_iadd hx hb dX6_in_53 ?_
        refine gen_i h (fun v_11 h => ?_)
        refine lv_istore_n (lv' := [(2, .int v_11), (0, .ref (am 0)), (1, .int x1), (3, .int x3)]) hx hb dX6_in_54 rfl hl (by decide) rfl (fun ls hl => ?_)
        refine lv_iinc (v := x3 + 1) (lv' := [(3, .int (x3 + 1)), (2, .int v_11), (0, .ref (am 0)), (1, .int x1)]) hx hb dX6_in_55 hl (k := 3) rfl rfl (by decide) rfl (fun ls hl => ?_)
        refine lv_goto (tgt := 18) hx hb dX6_in_58 (by decide) ?_
        exact ih _ _ _ _ _ h hI (lv_sub hl [2, 3, 1, 0] rfl)
set_option maxHeartbeats 4000000 in
set_option maxRecDepth 100000 in
theorem c_X6_in (l : Launch) (g : GP) (X : va_W) (am : Nat → Nat) (N : Nat) (x1 : Int32)  (st : St) {r : Int32} {st' : St} (h : f_X6_in N st x1 = some (r, st')) : MetI l yX6_in wsX6_in rmX6_in g (wMX g X am) [.ref (am 0), .int x1] st (r) st' := by
  refine metI_of (cc := cX6_in) (nL := 4) (ty := .int) (by decide) rfl (Nat.le_of_ble_eq_true rfl) rfl ?_
  intro p e s m below meth c Q A C hret H locs hI ls hl
  have C : Cx p s m _ c cX6_in 4 wsX6_in RX6 g A := C
  obtain ⟨hx, hb, hml, hown, hts⟩ := id C.1
  have hl : lv_has ls 4 [(0, .ref (am 0)), (1, .int x1)] := hl
  have lc48 := hts (.constant RX6 48 (-100001)) (by decide +kernel)
  rw [f_X6_in] at h
  refine lv_iload_n hx hb dX6_in_0 rfl (lv_at hl 1 rfl) ?_
  refine callS_S (rest := []) C.1 (c_X6_isYear l x1) (va_cwS 1 hts gX6_in_X6_isYear rfl rfl rfl hd_X6_isYear ⟨Nat.le_of_ble_eq_true rfl, Nat.le_of_ble_eq_true rfl⟩) rfl hl.1 rfl (Nat.le_of_ble_eq_true rfl) dX6_in_1 ?_
  refine gen_b h (fun r_1 h => ?_)
  refine lv_if_ne (tgt := 14) hx hb dX6_in_4 (by decide) (fun c_2 => ?_) (fun c_2 => ?_)
  · replace h := (if_neg c_2).symm.trans h
    refine lv_iconst (v := 0) hx hb dX6_in_14 (by decide) ?_
    refine lv_istore_n (lv' := [(2, .int 0), (0, .ref (am 0)), (1, .int x1)]) hx hb dX6_in_15 rfl hl (by decide) rfl (fun ls hl => ?_)
    refine lv_iconst (v := 0) hx hb dX6_in_16 (by decide) ?_
    refine lv_istore_n (lv' := [(3, .int 0), (2, .int 0), (0, .ref (am 0)), (1, .int x1)]) hx hb dX6_in_17 rfl hl (by decide) rfl (fun ls hl => ?_)
    refine wl_X6_in_L18 C hret N x1 st _ (fun a_12 a_13 H locs ls h hI hl => ?_) N 0 0 H locs ls h hI (lv_sub hl [2, 3, 1, 0] rfl)
    refine lv_iload_n hx hb dX6_in_61 rfl (lv_at hl 2 rfl) ?_
    obtain ⟨rfl, rfl⟩ := ret2 h
    exact hret H locs _ ls hI dX6_in_62
  · replace h := (if_pos c_2).symm.trans h
    refine lv_aload_n hx hb dX6_in_7 rfl (lv_at hl 0 rfl) ?_
    refine lv_ldc (v := (-100001)) hx hb hown lc48 dX6_in_8 ?_
    obtain ⟨r_15, st_16, hr_14, h⟩ := bd2_some h
    refine callV_I (rest := []) C hI (c_X6_finding l g X am (-100001 : Int32) st hr_14) (cwV 1 hts gX6_in_X6_finding rfl rfl rfl hv_X6_finding ⟨Nat.le_of_ble_eq_true rfl, Nat.le_of_ble_eq_true rfl⟩) (w_recv C hI X.length wM_ob rfl) rfl hl.1 rfl (Nat.le_of_ble_eq_true rfl) dX6_in_10 (fun H locs hI => ?_)
    obtain ⟨rfl, rfl⟩ := ret2 h
    exact hret H locs _ ls hI dX6_in_13
theorem hv_X6_in : yX6_in.cls = RX6 ∧ yX6_in.cls ≠ "java/lang/invoke/MethodHandle" ∧ yX6_in.cls ≠ "java/lang/invoke/VarHandle" ∧ (parseMethodDescriptor yX6_in.desc).map (fun d => d.parameters.length) = some 1 := by decide +kernel
/-! X6_used -/
def rmX6_used : Room := { frames := 2, cells := 0, slots := 0, locals := 49 }
def f_X6_used_L22 (N : Nat) (x1 : Int32) (x2 : Bool) (st : St) (k : Int32 → Int32 → Int32 → Option (Int32 × St)) : Nat → Int32 → Int32 → Int32 → Option (Int32 × St)
  | 0, _, _, _ => none
  | n + 1, x3, x4, x5 => if st 0 0 ≤ x5 then k x3 x4 x5 else bd1 (f_X6_has st x5 x1) fun r_5 => if b2i r_5 = 0 then f_X6_used_L22 N x1 x2 st k n x3 x4 (x5 + 1) else bd1 (f_X6_yearOf N st x5 x2) fun r_8 => if x4 = 0 then f_X6_used_L22 N x1 x2 st k n r_8 1 (x5 + 1) else if b2i x2 = 0 then if x3 ≤ r_8 then f_X6_used_L22 N x1 x2 st k n x3 1 (x5 + 1) else f_X6_used_L22 N x1 x2 st k n r_8 1 (x5 + 1) else if r_8 ≤ x3 then f_X6_used_L22 N x1 x2 st k n x3 1 (x5 + 1) else f_X6_used_L22 N x1 x2 st k n r_8 1 (x5 + 1)
def f_X6_used (N : Nat) (st : St) (x1 : Int32) (x2 : Bool) : Option (Int32 × St) := bnd (f_X6_isGood x1) fun r_1 => if b2i r_1 = 0 then bd2 (f_X6_finding st (-100001 : Int32)) fun r_21 st_22 => some (r_21, st_22) else f_X6_used_L22 N x1 x2 st (fun a_13 a_14 a_15 => if a_14 = 0 then bd2 (f_X6_finding st (-100006 : Int32)) fun r_18 st_19 => some (r_18, st_19) else some (a_13, st)) N 0 0 0
set_option maxHeartbeats 4000000 in
set_option maxRecDepth 100000 in
theorem wl_X6_used_L22 {p : Program} {l : Launch} {e : Env} {s : State} {m : MethodId} {args : Array Value} {below : List Frame} {meth : Method} {c : Code} {Q : State → Prop} {A : Nat → Prop} {g : GP} {X : va_W} {am : Nat → Nat} {r : Int32} {st' : St} (C : Cx p s m args c cX6_used 7 wsX6_used RX6 g A) (hret : RetI p l e rmX6_used s m args below meth c Q cX6_used g A (wMX g X am st') (r)) (N : Nat) (x1 : Int32) (x2 : Bool) (st : St)  (k : Int32 → Int32 → Int32 → Option (Int32 × St)) (hk : ∀ (x3 : Int32) (x4 : Int32) (x5 : Int32) (H : Heap) (locs : List Loc) (ls : Array Slot), k x3 x4 x5 = some (r, st') → IW g A s.heap (wMX g X am st) H locs → lv_has ls 7 [(0, .ref (am 0)), (1, .int x1), (2, .int (b2i x2)), (3, .int x3), (4, .int x4), (5, .int x5)] → W p l e rmX6_used s m args below meth c H locs 0 0 Q (F0 m 95 ls [])) : ∀ (n : Nat) (x3 : Int32) (x4 : Int32) (x5 : Int32) (H : Heap) (locs : List Loc) (ls : Array Slot), f_X6_used_L22 N x1 x2 st k n x3 x4 x5 = some (r, st') → IW g A s.heap (wMX g X am st) H locs → lv_has ls 7 [(0, .ref (am 0)), (1, .int x1), (2, .int (b2i x2)), (3, .int x3), (4, .int x4), (5, .int x5)] → W p l e rmX6_used s m args below meth c H locs 0 0 Q (F0 m 22 ls []) := by
  obtain ⟨hx, hb, hml, hown, hts⟩ := id C.1
  have hinRX6 : ∀ w ∈ u_ws RX6 TX6 16, w ∈ wsX6_used := by decide +kernel
  have lk9 := hts (.fieldLink RX6 9 "GraveRowsModel" "now" "[I") (by decide +kernel)
  intro n
  induction n with
  | zero =>
    intro x3 x4 x5 H locs ls h hI hl
    rw [f_X6_used_L22] at h
    cases h
  | succ n ih =>
    intro x3 x4 x5 H locs ls h hI hl
    rw [f_X6_used_L22] at h
    refine lv_iload hx hb dX6_used_22 (lv_at hl 5 rfl) ?_
    refine lv_aload_n hx hb dX6_used_24 rfl (lv_at hl 0 rfl) ?_
    refine w_get (v := .ref (am 1)) C hinRX6 hI X.length wM_ob rfl 0 (by decide) lk9 rfl rfl dX6_used_25 ?_
    refine lv_iconst (v := 0) hx hb dX6_used_28 (by decide) ?_
    refine w_ldK C hI (X.length + (0 + 1)) (wM_ar (by decide)) 0 (by decide) (by decide) dX6_used_29 ?_
    refine lv_icmp_ge (tgt := 95) hx hb dX6_used_30 (by decide) (fun c_3 => ?_) (fun c_3 => ?_)
    · replace h := (if_pos c_3).symm.trans h
      exact hk _ _ _ _ _ _ h hI (lv_sub hl [0, 1, 2, 3, 4, 5] rfl)
    · replace h := (if_neg c_3).symm.trans h
      refine lv_aload_n hx hb dX6_used_33 rfl (lv_at hl 0 rfl) ?_
      refine lv_iload hx hb dX6_used_34 (lv_at hl 5 rfl) ?_
      refine lv_iload_n hx hb dX6_used_36 rfl (lv_at hl 1 rfl) ?_
      obtain ⟨r_5, hr_4, h⟩ := bd1_some h
      refine callV_I (rest := []) C hI (c_X6_has l g X am x5 x1 st hr_4) (cwV 2 hts gX6_used_X6_has rfl rfl rfl hv_X6_has ⟨Nat.le_of_ble_eq_true rfl, Nat.le_of_ble_eq_true rfl⟩) (w_recv C hI X.length wM_ob rfl) rfl hl.1 rfl (Nat.le_of_ble_eq_true rfl) dX6_used_37 (fun H locs hI => ?_)
      refine lv_if_ne (tgt := 46) hx hb dX6_used_40 (by decide) (fun c_6 => ?_) (fun c_6 => ?_)
      · replace h := (if_neg c_6).symm.trans h
        refine lv_aload_n hx hb dX6_used_46 rfl (lv_at hl 0 rfl) ?_
        refine lv_iload hx hb dX6_used_47 (lv_at hl 5 rfl) ?_
        refine lv_iload_n hx hb dX6_used_49 rfl (lv_at hl 2 rfl) ?_
        obtain ⟨r_8, hr_7, h⟩ := bd1_some h
        refine callV_I (rest := []) C hI (c_X6_yearOf l g X am N x5 x2 st hr_7) (cwV 2 hts gX6_used_X6_yearOf rfl rfl rfl hv_X6_yearOf ⟨Nat.le_of_ble_eq_true rfl, Nat.le_of_ble_eq_true rfl⟩) (w_recv C hI X.length wM_ob rfl) rfl hl.1 rfl (Nat.le_of_ble_eq_true rfl) dX6_used_50 (fun H locs hI => ?_)
        refine lv_istore (lv' := [(6, .int r_8), (0, .ref (am 0)), (1, .int x1), (2, .int (b2i x2)), (3, .int x3), (4, .int x4), (5, .int x5)]) hx hb dX6_used_53 hl (by decide) rfl (fun ls hl => ?_)
        refine lv_iload hx hb dX6_used_55 (lv_at hl 5 rfl) ?_
        refine lv_if_eq (tgt := 79) hx hb dX6_used_57 (by decide) (fun c_9 => ?_) (fun c_9 => ?_)
        · replace h := (if_pos c_9).symm.trans h
          refine lv_iload hx hb dX6_used_79 (lv_at hl 0 rfl) ?_
          refine lv_goto (tgt := 85) hx hb dX6_used_81 (by decide) ?_
          refine lv_istore_n (lv' := [(3, .int r_8), (6, .int r_8), (0, .ref (am 0)), (1, .int x1), (2, .int (b2i x2)), (4, .int x4), (5, .int x5)]) hx hb dX6_used_85 rfl hl (by decide) rfl (fun ls hl => ?_)
          refine lv_iconst (v := 1) hx hb dX6_used_86 (by decide) ?_
          refine lv_istore (lv' := [(4, .int 1), (3, .int r_8), (6, .int r_8), (0, .ref (am 0)), (1, .int x1), (2, .int (b2i x2)), (5, .int x5)]) hx hb dX6_used_87 hl (by decide) rfl (fun ls hl => ?_)
          refine lv_iinc (v := x5 + 1) (lv' := [(5, .int (x5 + 1)), (4, .int 1), (3, .int r_8), (6, .int r_8), (0, .ref (am 0)), (1, .int x1), (2, .int (b2i x2))]) hx hb dX6_used_89 hl (k := 6) rfl rfl (by decide) rfl (fun ls hl => ?_)
          refine lv_goto (tgt := 22) hx hb dX6_used_92 (by decide) ?_
          exact ih _ _ _ _ _ _ h hI (lv_sub hl [4, 5, 6, 2, 1, 0] rfl)
        · replace h := (if_neg c_9).symm.trans h
          refine lv_iload_n hx hb dX6_used_60 rfl (lv_at hl 3 rfl) ?_
          refine lv_if_eq (tgt := 73) hx hb dX6_used_61 (by decide) (fun c_10 => ?_) (fun c_10 => ?_)
          · replace h := (if_pos c_10).symm.trans h
            refine lv_iload hx hb dX6_used_73 (lv_at hl 0 rfl) ?_
            refine lv_iload_n hx hb dX6_used_75 rfl (lv_at hl 4 rfl) ?_
            refine lv_icmp_ge (tgt := 84) hx hb dX6_used_76 (by decide) (fun c_11 => ?_) (fun c_11 => ?_)
            · replace h := (if_pos c_11).symm.trans h
              refine lv_iload_n hx hb dX6_used_84 rfl (lv_at hl 4 rfl) ?_
              refine lv_istore_n (lv' := [(3, .int x3), (6, .int r_8), (0, .ref (am 0)), (1, .int x1), (2, .int (b2i x2)), (4, .int x4), (5, .int x5)]) hx hb dX6_used_85 rfl hl (by decide) rfl (fun ls hl => ?_)
              refine lv_iconst (v := 1) hx hb dX6_used_86 (by decide) ?_
              refine lv_istore (lv' := [(4, .int 1), (3, .int x3), (6, .int r_8), (0, .ref (am 0)), (1, .int x1), (2, .int (b2i x2)), (5, .int x5)]) hx hb dX6_used_87 hl (by decide) rfl (fun ls hl => ?_)
              refine lv_iinc (v := x5 + 1) (lv' := [(5, .int (x5 + 1)), (4, .int 1), (3, .int x3), (6, .int r_8), (0, .ref (am 0)), (1, .int x1), (2, .int (b2i x2))]) hx hb dX6_used_89 hl (k := 6) rfl rfl (by decide) rfl (fun ls hl => ?_)
              refine lv_goto (tgt := 22) hx hb dX6_used_92 (by decide) ?_
              exact ih _ _ _ _ _ _ h hI (lv_sub hl [4, 5, 6, 2, 1, 0] rfl)
            · replace h := (if_neg c_11).symm.trans h
              refine lv_iload hx hb dX6_used_79 (lv_at hl 0 rfl) ?_
              refine lv_goto (tgt := 85) hx hb dX6_used_81 (by decide) ?_
              refine lv_istore_n (lv' := [(3, .int r_8), (6, .int r_8), (0, .ref (am 0)), (1, .int x1), (2, .int (b2i x2)), (4, .int x4), (5, .int x5)]) hx hb dX6_used_85 rfl hl (by decide) rfl (fun ls hl => ?_)
              refine lv_iconst (v := 1) hx hb dX6_used_86 (by decide) ?_
              refine lv_istore (lv' := [(4, .int 1), (3, .int r_8), (6, .int r_8), (0, .ref (am 0)), (1, .int x1), (2, .int (b2i x2)), (5, .int x5)]) hx hb dX6_used_87 hl (by decide) rfl (fun ls hl => ?_)
              refine lv_iinc (v := x5 + 1) (lv' := [(5, .int (x5 + 1)), (4, .int 1), (3, .int r_8), (6, .int r_8), (0, .ref (am 0)), (1, .int x1), (2, .int (b2i x2))]) hx hb dX6_used_89 hl (k := 6) rfl rfl (by decide) rfl (fun ls hl => ?_)
              refine lv_goto (tgt := 22) hx hb dX6_used_92 (by decide) ?_
              exact ih _ _ _ _ _ _ h hI (lv_sub hl [4, 5, 6, 2, 1, 0] rfl)
          · replace h := (if_neg c_10).symm.trans h
            refine lv_iload hx hb dX6_used_64 (lv_at hl 0 rfl) ?_
            refine lv_iload_n hx hb dX6_used_66 rfl (lv_at hl 4 rfl) ?_
            refine lv_icmp_le (tgt := 84) hx hb dX6_used_67 (by decide) (fun c_12 => ?_) (fun c_12 => ?_)
            · replace h := (if_pos c_12).symm.trans h
              refine lv_iload_n hx hb dX6_used_84 rfl (lv_at hl 4 rfl) ?_
              refine lv_istore_n (lv' := [(3, .int x3), (6, .int r_8), (0, .ref (am 0)), (1, .int x1), (2, .int (b2i x2)), (4, .int x4), (5, .int x5)]) hx hb dX6_used_85 rfl hl (by decide) rfl (fun ls hl => ?_)
              refine lv_iconst (v := 1) hx hb dX6_used_86 (by decide) ?_
              refine lv_istore (lv' := [(4, .int 1), (3, .int x3), (6, .int r_8), (0, .ref (am 0)), (1, .int x1), (2, .int (b2i x2)), (5, .int x5)]) hx hb dX6_used_87 hl (by decide) rfl (fun ls hl => ?_)
              refine lv_iinc (v := x5 + 1) (lv' := [(5, .int (x5 + 1)), (4, .int 1), (3, .int x3), (6, .int r_8), (0, .ref (am 0)), (1, .int x1), (2, .int (b2i x2))]) hx hb dX6_used_89 hl (k := 6) rfl rfl (by decide) rfl (fun ls hl => ?_)
              refine lv_goto (tgt := 22) hx hb dX6_used_92 (by decide) ?_
              exact ih _ _ _ _ _ _ h hI (lv_sub hl [4, 5, 6, 2, 1, 0] rfl)
            · replace h := (if_neg c_12).symm.trans h
              refine lv_goto (tgt := 79) hx hb dX6_used_70 (by decide) ?_
              refine lv_iload hx hb dX6_used_79 (lv_at hl 0 rfl) ?_
              refine lv_goto (tgt := 85) hx hb dX6_used_81 (by decide) ?_
              refine lv_istore_n (lv' := [(3, .int r_8), (6, .int r_8), (0, .ref (am 0)), (1, .int x1), (2, .int (b2i x2)), (4, .int x4), (5, .int x5)]) hx hb dX6_used_85 rfl hl (by decide) rfl (fun ls hl => ?_)
              refine lv_iconst (v := 1) hx hb dX6_used_86 (by decide) ?_
              refine lv_istore (lv' := [(4, .int 1), (3, .int r_8), (6, .int r_8), (0, .ref (am 0)), (1, .int x1), (2, .int (b2i x2)), (5, .int x5)]) hx hb dX6_used_87 hl (by decide) rfl (fun ls hl => ?_)
              refine lv_iinc (v := x5 + 1) (lv' := [(5, .int (x5 + 1)), (4, .int 1), (3, .int r_8), (6, .int r_8), (0, .ref (am 0)), (1, .int x1), (2, .int (b2i x2))]) hx hb dX6_used_89 hl (k := 6) rfl rfl (by decide) rfl (fun ls hl => ?_)
              refine lv_goto (tgt := 22) hx hb dX6_used_92 (by decide) ?_
              exact ih _ _ _ _ _ _ h hI (lv_sub hl [4, 5, 6, 2, 1, 0] rfl)
      · replace h := (if_pos c_6).symm.trans h
        refine lv_goto (tgt := 89) hx hb dX6_used_43 (by decide) ?_
        refine lv_iinc (v := x5 + 1) (lv' := [(5, .int (x5 + 1)), (0, .ref (am 0)), (1, .int x1), (2, .int (b2i x2)), (3, .int x3), (4, .int x4)]) hx hb dX6_used_89 hl (k := 5) rfl rfl (by decide) rfl (fun ls hl => ?_)
        refine lv_goto (tgt := 22) hx hb dX6_used_92 (by decide) ?_
        exact ih _ _ _ _ _ _ h hI (lv_sub hl [1, 2, 3, 4, 5, 0] rfl)
set_option maxHeartbeats 4000000 in
set_option maxRecDepth 100000 in
theorem c_X6_used (l : Launch) (g : GP) (X : va_W) (am : Nat → Nat) (N : Nat) (x1 : Int32) (x2 : Bool)  (st : St) {r : Int32} {st' : St} (h : f_X6_used N st x1 x2 = some (r, st')) : MetI l yX6_used wsX6_used rmX6_used g (wMX g X am) [.ref (am 0), .int x1, .int (b2i x2)] st (r) st' := by
  refine metI_of (cc := cX6_used) (nL := 7) (ty := .int) (by decide) rfl (Nat.le_of_ble_eq_true rfl) rfl ?_
  intro p e s m below meth c Q A C hret H locs hI ls hl
  have C : Cx p s m _ c cX6_used 7 wsX6_used RX6 g A := C
  obtain ⟨hx, hb, hml, hown, hts⟩ := id C.1
  have hl : lv_has ls 7 [(0, .ref (am 0)), (1, .int x1), (2, .int (b2i x2))] := hl
  have lc83 := hts (.constant RX6 83 (-100006)) (by decide +kernel)
  have lc48 := hts (.constant RX6 48 (-100001)) (by decide +kernel)
  rw [f_X6_used] at h
  refine lv_iload_n hx hb dX6_used_0 rfl (lv_at hl 1 rfl) ?_
  refine callS_S (rest := []) C.1 (c_X6_isGood l x1) (va_cwS 1 hts gX6_used_X6_isGood rfl rfl rfl hd_X6_isGood ⟨Nat.le_of_ble_eq_true rfl, Nat.le_of_ble_eq_true rfl⟩) rfl hl.1 rfl (Nat.le_of_ble_eq_true rfl) dX6_used_1 ?_
  refine gen_b h (fun r_1 h => ?_)
  refine lv_if_ne (tgt := 14) hx hb dX6_used_4 (by decide) (fun c_2 => ?_) (fun c_2 => ?_)
  · replace h := (if_neg c_2).symm.trans h
    refine lv_iconst (v := 0) hx hb dX6_used_14 (by decide) ?_
    refine lv_istore_n (lv' := [(3, .int 0), (0, .ref (am 0)), (1, .int x1), (2, .int (b2i x2))]) hx hb dX6_used_15 rfl hl (by decide) rfl (fun ls hl => ?_)
    refine lv_iconst (v := 0) hx hb dX6_used_16 (by decide) ?_
    refine lv_istore (lv' := [(4, .int 0), (3, .int 0), (0, .ref (am 0)), (1, .int x1), (2, .int (b2i x2))]) hx hb dX6_used_17 hl (by decide) rfl (fun ls hl => ?_)
    refine lv_iconst (v := 0) hx hb dX6_used_19 (by decide) ?_
    refine lv_istore (lv' := [(5, .int 0), (4, .int 0), (3, .int 0), (0, .ref (am 0)), (1, .int x1), (2, .int (b2i x2))]) hx hb dX6_used_20 hl (by decide) rfl (fun ls hl => ?_)
    refine wl_X6_used_L22 C hret N x1 x2 st _ (fun a_13 a_14 a_15 H locs ls h hI hl => ?_) N 0 0 0 H locs ls h hI (lv_sub hl [3, 4, 5, 2, 1, 0] rfl)
    refine lv_iload hx hb dX6_used_95 (lv_at hl 4 rfl) ?_
    refine lv_if_eq (tgt := 104) hx hb dX6_used_97 (by decide) (fun c_16 => ?_) (fun c_16 => ?_)
    · replace h := (if_pos c_16).symm.trans h
      refine lv_aload_n hx hb dX6_used_104 rfl (lv_at hl 0 rfl) ?_
      refine lv_ldc (v := (-100006)) hx hb hown lc83 dX6_used_105 ?_
      obtain ⟨r_18, st_19, hr_17, h⟩ := bd2_some h
      refine callV_I (rest := []) C hI (c_X6_finding l g X am (-100006 : Int32) st hr_17) (cwV 1 hts gX6_used_X6_finding rfl rfl rfl hv_X6_finding ⟨Nat.le_of_ble_eq_true rfl, Nat.le_of_ble_eq_true rfl⟩) (w_recv C hI X.length wM_ob rfl) rfl hl.1 rfl (Nat.le_of_ble_eq_true rfl) dX6_used_107 (fun H locs hI => ?_)
      obtain ⟨rfl, rfl⟩ := ret2 h
      exact hret H locs _ ls hI dX6_used_110
    · replace h := (if_neg c_16).symm.trans h
      refine lv_iload_n hx hb dX6_used_100 rfl (lv_at hl 3 rfl) ?_
      refine lv_goto (tgt := 110) hx hb dX6_used_101 (by decide) ?_
      obtain ⟨rfl, rfl⟩ := ret2 h
      exact hret H locs _ ls hI dX6_used_110
  · replace h := (if_pos c_2).symm.trans h
    refine lv_aload_n hx hb dX6_used_7 rfl (lv_at hl 0 rfl) ?_
    refine lv_ldc (v := (-100001)) hx hb hown lc48 dX6_used_8 ?_
    obtain ⟨r_21, st_22, hr_20, h⟩ := bd2_some h
    refine callV_I (rest := []) C hI (c_X6_finding l g X am (-100001 : Int32) st hr_20) (cwV 1 hts gX6_used_X6_finding rfl rfl rfl hv_X6_finding ⟨Nat.le_of_ble_eq_true rfl, Nat.le_of_ble_eq_true rfl⟩) (w_recv C hI X.length wM_ob rfl) rfl hl.1 rfl (Nat.le_of_ble_eq_true rfl) dX6_used_10 (fun H locs hI => ?_)
    obtain ⟨rfl, rfl⟩ := ret2 h
    exact hret H locs _ ls hI dX6_used_13
theorem hv_X6_used : yX6_used.cls = RX6 ∧ yX6_used.cls ≠ "java/lang/invoke/MethodHandle" ∧ yX6_used.cls ≠ "java/lang/invoke/VarHandle" ∧ (parseMethodDescriptor yX6_used.desc).map (fun d => d.parameters.length) = some 2 := by decide +kernel
/-! X6_familyOf -/
def rmX6_familyOf : Room := { frames := 1, cells := 0, slots := 0, locals := 24 }
def f_X6_familyOf_L33 (N : Nat) (x2 : Int32) (x4 : Int32) (x5 : Int32) (st : St) (k : Int32 → Int32 → Option (Int32)) : Nat → Int32 → Int32 → Option (Int32)
  | 0, _, _ => none
  | n + 1, x3, x6 => if st 0 0 ≤ x6 then k x3 x6 else ck 116 (12 + x5) fun j_5 => ck 116 (12 + x6) fun j_6 => if x2 < iabs ((st 0 j_5) - (st 0 j_6)) then bnd (x3 ||| (0 : Int32)) fun v_9 => f_X6_familyOf_L33 N x2 x4 x5 st k n v_9 (x6 + 1) else ck 116 (22 + x5) fun j_10 => ck 116 (22 + x6) fun j_11 => if x2 < iabs ((st 0 j_10) - (st 0 j_11)) then bnd (x3 ||| (0 : Int32)) fun v_14 => f_X6_familyOf_L33 N x2 x4 x5 st k n v_14 (x6 + 1) else if (x3 >>> (x5 &&& 31)) &&& (1 : Int32) = 1 then bnd (x3 ||| ((1 : Int32) <<< (x6 &&& 31))) fun v_18 => f_X6_familyOf_L33 N x2 x4 x5 st k n v_18 (x6 + 1) else bnd (x3 ||| (0 : Int32)) fun v_17 => f_X6_familyOf_L33 N x2 x4 x5 st k n v_17 (x6 + 1)
def f_X6_familyOf_L19 (N : Nat) (x2 : Int32) (x4 : Int32) (st : St) (k : Int32 → Int32 → Option (Int32)) : Nat → Int32 → Int32 → Option (Int32)
  | 0, _, _ => none
  | n + 1, x3, x5 => if st 0 0 ≤ x5 then k x3 x5 else f_X6_familyOf_L33 N x2 x4 x5 st (fun a_19 a_20 => f_X6_familyOf_L19 N x2 x4 st k n a_19 (x5 + 1)) N x3 0
def f_X6_familyOf_L7 (N : Nat) (x2 : Int32) (st : St) (k : Int32 → Int32 → Option (Int32)) : Nat → Int32 → Int32 → Option (Int32)
  | 0, _, _ => none
  | n + 1, x3, x4 => if x3 = x4 then k x3 x4 else f_X6_familyOf_L19 N x2 x3 st (fun a_21 a_22 => f_X6_familyOf_L7 N x2 st k n a_21 x3) N x3 0
def f_X6_familyOf (N : Nat) (st : St) (x1 : Int32) (x2 : Int32) : Option (Int32) := bnd ((1 : Int32) <<< (x1 &&& 31)) fun v_1 => f_X6_familyOf_L7 N x2 st (fun a_23 a_24 => some a_23) N v_1 0
set_option maxHeartbeats 4000000 in
set_option maxRecDepth 100000 in
theorem wl_X6_familyOf_L33 {p : Program} {l : Launch} {e : Env} {s : State} {m : MethodId} {args : Array Value} {below : List Frame} {meth : Method} {c : Code} {Q : State → Prop} {A : Nat → Prop} {g : GP} {X : va_W} {am : Nat → Nat} {r : Int32}  (C : Cx p s m args c cX6_familyOf 8 wsX6_familyOf RX6 g A) (st : St) (hret : RetI p l e rmX6_familyOf s m args below meth c Q cX6_familyOf g A (wMX g X am st) (r)) (N : Nat) (x2 : Int32) (x4 : Int32) (x5 : Int32)  (k : Int32 → Int32 → Option (Int32)) (hk : ∀ (x3 : Int32) (x6 : Int32) (H : Heap) (locs : List Loc) (ls : Array Slot), k x3 x6 = some r → IW g A s.heap (wMX g X am st) H locs → lv_has ls 8 [(0, .ref (am 0)), (2, .int x2), (3, .int x3), (4, .int x4), (5, .int x5), (6, .int x6)] → W p l e rmX6_familyOf s m args below meth c H locs 0 0 Q (F0 m 139 ls [])) : ∀ (n : Nat) (x3 : Int32) (x6 : Int32) (H : Heap) (locs : List Loc) (ls : Array Slot), f_X6_familyOf_L33 N x2 x4 x5 st k n x3 x6 = some r → IW g A s.heap (wMX g X am st) H locs → lv_has ls 8 [(0, .ref (am 0)), (2, .int x2), (3, .int x3), (4, .int x4), (5, .int x5), (6, .int x6)] → W p l e rmX6_familyOf s m args below meth c H locs 0 0 Q (F0 m 33 ls []) := by
  obtain ⟨hx, hb, hml, hown, hts⟩ := id C.1
  have hinRX6 : ∀ w ∈ u_ws RX6 TX6 16, w ∈ wsX6_familyOf := by decide +kernel
  have lk9 := hts (.fieldLink RX6 9 "GraveRowsModel" "now" "[I") (by decide +kernel)
  have ml150 := hts (.methodLink RX6 150 Lib.Math.abs.name) (by decide +kernel)
  have msabs := hts (.static Lib.Math.abs.name) (by decide +kernel)
  have mini := hts (.initialized "java/lang/Math") (by decide +kernel)
  have mcabs := hts (.code Lib.Math.abs.name Lib.Math.abs.code 1 (some .int)) (by decide +kernel)
  intro n
  induction n with
  | zero =>
    intro x3 x6 H locs ls h hI hl
    rw [f_X6_familyOf_L33] at h
    cases h
  | succ n ih =>
    intro x3 x6 H locs ls h hI hl
    rw [f_X6_familyOf_L33] at h
    refine lv_iload hx hb dX6_familyOf_33 (lv_at hl 5 rfl) ?_
    refine lv_aload_n hx hb dX6_familyOf_35 rfl (lv_at hl 0 rfl) ?_
    refine w_get (v := .ref (am 1)) C hinRX6 hI X.length wM_ob rfl 0 (by decide) lk9 rfl rfl dX6_familyOf_36 ?_
    refine lv_iconst (v := 0) hx hb dX6_familyOf_39 (by decide) ?_
    refine w_ldK C hI (X.length + (0 + 1)) (wM_ar (by decide)) 0 (by decide) (by decide) dX6_familyOf_40 ?_
    refine lv_icmp_ge (tgt := 139) hx hb dX6_familyOf_41 (by decide) (fun c_4 => ?_) (fun c_4 => ?_)
    · replace h := (if_pos c_4).symm.trans h
      exact hk _ _ _ _ _ h hI (lv_sub hl [0, 1, 2, 3, 4, 5] rfl)
    · replace h := (if_neg c_4).symm.trans h
      refine lv_aload_n hx hb dX6_familyOf_44 rfl (lv_at hl 0 rfl) ?_
      refine w_get (v := .ref (am 1)) C hinRX6 hI X.length wM_ob rfl 0 (by decide) lk9 rfl rfl dX6_familyOf_45 ?_
      refine lv_bipush (v := 12) hx hb dX6_familyOf_48 (by decide) ?_
      refine lv_iload hx hb dX6_familyOf_50 (lv_at hl 4 rfl) ?_
      refine lv_iadd hx hb dX6_familyOf_52 ?_
      refine w_ld C hI (X.length + (0 + 1)) (wM_ar (by decide)) h dX6_familyOf_53 (fun j_5 hj_5 h => ?_)
      refine lv_aload_n hx hb dX6_familyOf_54 rfl (lv_at hl 0 rfl) ?_
      refine w_get (v := .ref (am 1)) C hinRX6 hI X.length wM_ob rfl 0 (by decide) lk9 rfl rfl dX6_familyOf_55 ?_
      refine lv_bipush (v := 12) hx hb dX6_familyOf_58 (by decide) ?_
      refine lv_iload hx hb dX6_familyOf_60 (lv_at hl 5 rfl) ?_
      refine lv_iadd hx hb dX6_familyOf_62 ?_
      refine w_ld C hI (X.length + (0 + 1)) (wM_ar (by decide)) h dX6_familyOf_63 (fun j_6 hj_6 h => ?_)
      refine lv_isub hx hb dX6_familyOf_64 ?_
      refine w_mabs hx hb (hml.trans hl.1.symm) hown ml150 msabs mini mcabs (Nat.le_of_ble_eq_true rfl) (Nat.le_of_ble_eq_true rfl) dX6_familyOf_65 ?_
      refine lv_iload_n hx hb dX6_familyOf_68 rfl (lv_at hl 1 rfl) ?_
      refine lv_icmp_gt (tgt := 104) hx hb dX6_familyOf_69 (by decide) (fun c_7 => ?_) (fun c_7 => ?_)
      · replace h := (if_pos c_7).symm.trans h
        refine lv_iconst (v := 0) hx hb dX6_familyOf_104 (by decide) ?_
        refine lv_istore (lv' := [(7, .int 0), (0, .ref (am 0)), (2, .int x2), (3, .int x3), (4, .int x4), (5, .int x5), (6, .int x6)]) hx hb dX6_familyOf_105 hl (by decide) rfl (fun ls hl => ?_)
        refine lv_iload_n hx hb dX6_familyOf_107 rfl (lv_at hl 3 rfl) ?_
        refine lv_iload hx hb dX6_familyOf_108 (lv_at hl 0 rfl) ?_
        refine lv_if_eq (tgt := 130) hx hb dX6_familyOf_110 (by decide) (fun c_8 => ?_) (fun c_8 => absurd (by decide) c_8)
        refine lv_iconst (v := 0) hx hb dX6_familyOf_130 (by decide) ?_
        refine lv_ior hx hb dX6_familyOf_131 ?_
        refine gen_i h (fun v_9 h => ?_)
        refine lv_istore_n (lv' := [(3, .int v_9), (7, .int 0), (0, .ref (am 0)), (2, .int x2), (4, .int x4), (5, .int x5), (6, .int x6)]) hx hb dX6_familyOf_132 rfl hl (by decide) rfl (fun ls hl => ?_)
        refine lv_iinc (v := x6 + 1) (lv' := [(6, .int (x6 + 1)), (3, .int v_9), (7, .int 0), (0, .ref (am 0)), (2, .int x2), (4, .int x4), (5, .int x5)]) hx hb dX6_familyOf_133 hl (k := 6) rfl rfl (by decide) rfl (fun ls hl => ?_)
        refine lv_goto (tgt := 33) hx hb dX6_familyOf_136 (by decide) ?_
        exact ih _ _ _ _ _ h hI (lv_sub hl [3, 4, 1, 5, 6, 0] rfl)
      · replace h := (if_neg c_7).symm.trans h
        refine lv_aload_n hx hb dX6_familyOf_72 rfl (lv_at hl 0 rfl) ?_
        refine w_get (v := .ref (am 1)) C hinRX6 hI X.length wM_ob rfl 0 (by decide) lk9 rfl rfl dX6_familyOf_73 ?_
        refine lv_bipush (v := 22) hx hb dX6_familyOf_76 (by decide) ?_
        refine lv_iload hx hb dX6_familyOf_78 (lv_at hl 4 rfl) ?_
        refine lv_iadd hx hb dX6_familyOf_80 ?_
        refine w_ld C hI (X.length + (0 + 1)) (wM_ar (by decide)) h dX6_familyOf_81 (fun j_10 hj_10 h => ?_)
        refine lv_aload_n hx hb dX6_familyOf_82 rfl (lv_at hl 0 rfl) ?_
        refine w_get (v := .ref (am 1)) C hinRX6 hI X.length wM_ob rfl 0 (by decide) lk9 rfl rfl dX6_familyOf_83 ?_
        refine lv_bipush (v := 22) hx hb dX6_familyOf_86 (by decide) ?_
        refine lv_iload hx hb dX6_familyOf_88 (lv_at hl 5 rfl) ?_
        refine lv_iadd hx hb dX6_familyOf_90 ?_
        refine w_ld C hI (X.length + (0 + 1)) (wM_ar (by decide)) h dX6_familyOf_91 (fun j_11 hj_11 h => ?_)
        refine lv_isub hx hb dX6_familyOf_92 ?_
        refine w_mabs hx hb (hml.trans hl.1.symm) hown ml150 msabs mini mcabs (Nat.le_of_ble_eq_true rfl) (Nat.le_of_ble_eq_true rfl) dX6_familyOf_93 ?_
        refine lv_iload_n hx hb dX6_familyOf_96 rfl (lv_at hl 1 rfl) ?_
        refine lv_icmp_gt (tgt := 104) hx hb dX6_familyOf_97 (by decide) (fun c_12 => ?_) (fun c_12 => ?_)
        · replace h := (if_pos c_12).symm.trans h
          refine lv_iconst (v := 0) hx hb dX6_familyOf_104 (by decide) ?_
          refine lv_istore (lv' := [(7, .int 0), (0, .ref (am 0)), (2, .int x2), (3, .int x3), (4, .int x4), (5, .int x5), (6, .int x6)]) hx hb dX6_familyOf_105 hl (by decide) rfl (fun ls hl => ?_)
          refine lv_iload_n hx hb dX6_familyOf_107 rfl (lv_at hl 3 rfl) ?_
          refine lv_iload hx hb dX6_familyOf_108 (lv_at hl 0 rfl) ?_
          refine lv_if_eq (tgt := 130) hx hb dX6_familyOf_110 (by decide) (fun c_13 => ?_) (fun c_13 => absurd (by decide) c_13)
          refine lv_iconst (v := 0) hx hb dX6_familyOf_130 (by decide) ?_
          refine lv_ior hx hb dX6_familyOf_131 ?_
          refine gen_i h (fun v_14 h => ?_)
          refine lv_istore_n (lv' := [(3, .int v_14), (7, .int 0), (0, .ref (am 0)), (2, .int x2), (4, .int x4), (5, .int x5), (6, .int x6)]) hx hb dX6_familyOf_132 rfl hl (by decide) rfl (fun ls hl => ?_)
          refine lv_iinc (v := x6 + 1) (lv' := [(6, .int (x6 + 1)), (3, .int v_14), (7, .int 0), (0, .ref (am 0)), (2, .int x2), (4, .int x4), (5, .int x5)]) hx hb dX6_familyOf_133 hl (k := 6) rfl rfl (by decide) rfl (fun ls hl => ?_)
          refine lv_goto (tgt := 33) hx hb dX6_familyOf_136 (by decide) ?_
          exact ih _ _ _ _ _ h hI (lv_sub hl [3, 4, 1, 5, 6, 0] rfl)
        · replace h := (if_neg c_12).symm.trans h
          refine lv_iconst (v := 1) hx hb dX6_familyOf_100 (by decide) ?_
          refine lv_goto (tgt := 105) hx hb dX6_familyOf_101 (by decide) ?_
          refine lv_istore (lv' := [(7, .int 1), (0, .ref (am 0)), (2, .int x2), (3, .int x3), (4, .int x4), (5, .int x5), (6, .int x6)]) hx hb dX6_familyOf_105 hl (by decide) rfl (fun ls hl => ?_)
          refine lv_iload_n hx hb dX6_familyOf_107 rfl (lv_at hl 3 rfl) ?_
          refine lv_iload hx hb dX6_familyOf_108 (lv_at hl 0 rfl) ?_
          refine lv_if_eq (tgt := 130) hx hb dX6_familyOf_110 (by decide) (fun c_15 => absurd c_15 (by decide)) (fun c_15 => ?_)
          refine lv_iload_n hx hb dX6_familyOf_113 rfl (lv_at hl 3 rfl) ?_
          refine lv_iload hx hb dX6_familyOf_114 (lv_at hl 5 rfl) ?_
          refine lv_ishr hx hb dX6_familyOf_116 ?_
          refine lv_iconst (v := 1) hx hb dX6_familyOf_117 (by decide) ?_
          refine lv_iand hx hb dX6_familyOf_118 ?_
          refine lv_iconst (v := 1) hx hb dX6_familyOf_119 (by decide) ?_
          refine lv_icmp_ne (tgt := 130) hx hb dX6_familyOf_120 (by decide) (fun c_16 => ?_) (fun c_16 => ?_)
          · replace h := (if_neg c_16).symm.trans h
            refine lv_iconst (v := 0) hx hb dX6_familyOf_130 (by decide) ?_
            refine lv_ior hx hb dX6_familyOf_131 ?_
            refine gen_i h (fun v_17 h => ?_)
            refine lv_istore_n (lv' := [(3, .int v_17), (7, .int 1), (0, .ref (am 0)), (2, .int x2), (4, .int x4), (5, .int x5), (6, .int x6)]) hx hb dX6_familyOf_132 rfl hl (by decide) rfl (fun ls hl => ?_)
            refine lv_iinc (v := x6 + 1) (lv' := [(6, .int (x6 + 1)), (3, .int v_17), (7, .int 1), (0, .ref (am 0)), (2, .int x2), (4, .int x4), (5, .int x5)]) hx hb dX6_familyOf_133 hl (k := 6) rfl rfl (by decide) rfl (fun ls hl => ?_)
            refine lv_goto (tgt := 33) hx hb dX6_familyOf_136 (by decide) ?_
            exact ih _ _ _ _ _ h hI (lv_sub hl [3, 4, 1, 5, 6, 0] rfl)
          · replace h := (if_pos c_16).symm.trans h
            refine lv_iconst (v := 1) hx hb dX6_familyOf_123 (by decide) ?_
            refine lv_iload hx hb dX6_familyOf_124 (lv_at hl 6 rfl) ?_
            refine lv_ishl hx hb dX6_familyOf_126 ?_
            refine lv_goto (tgt := 131) hx hb dX6_familyOf_127 (by decide) ?_
            refine lv_ior hx hb dX6_familyOf_131 ?_
            refine gen_i h (fun v_18 h => ?_)
            refine lv_istore_n (lv' := [(3, .int v_18), (7, .int 1), (0, .ref (am 0)), (2, .int x2), (4, .int x4), (5, .int x5), (6, .int x6)]) hx hb dX6_familyOf_132 rfl hl (by decide) rfl (fun ls hl => ?_)
            refine lv_iinc (v := x6 + 1) (lv' := [(6, .int (x6 + 1)), (3, .int v_18), (7, .int 1), (0, .ref (am 0)), (2, .int x2), (4, .int x4), (5, .int x5)]) hx hb dX6_familyOf_133 hl (k := 6) rfl rfl (by decide) rfl (fun ls hl => ?_)
            refine lv_goto (tgt := 33) hx hb dX6_familyOf_136 (by decide) ?_
            exact ih _ _ _ _ _ h hI (lv_sub hl [3, 4, 1, 5, 6, 0] rfl)
set_option maxHeartbeats 4000000 in
set_option maxRecDepth 100000 in
theorem wl_X6_familyOf_L19 {p : Program} {l : Launch} {e : Env} {s : State} {m : MethodId} {args : Array Value} {below : List Frame} {meth : Method} {c : Code} {Q : State → Prop} {A : Nat → Prop} {g : GP} {X : va_W} {am : Nat → Nat} {r : Int32}  (C : Cx p s m args c cX6_familyOf 8 wsX6_familyOf RX6 g A) (st : St) (hret : RetI p l e rmX6_familyOf s m args below meth c Q cX6_familyOf g A (wMX g X am st) (r)) (N : Nat) (x2 : Int32) (x4 : Int32)  (k : Int32 → Int32 → Option (Int32)) (hk : ∀ (x3 : Int32) (x5 : Int32) (H : Heap) (locs : List Loc) (ls : Array Slot), k x3 x5 = some r → IW g A s.heap (wMX g X am st) H locs → lv_has ls 8 [(0, .ref (am 0)), (2, .int x2), (3, .int x3), (4, .int x4), (5, .int x5)] → W p l e rmX6_familyOf s m args below meth c H locs 0 0 Q (F0 m 145 ls [])) : ∀ (n : Nat) (x3 : Int32) (x5 : Int32) (H : Heap) (locs : List Loc) (ls : Array Slot), f_X6_familyOf_L19 N x2 x4 st k n x3 x5 = some r → IW g A s.heap (wMX g X am st) H locs → lv_has ls 8 [(0, .ref (am 0)), (2, .int x2), (3, .int x3), (4, .int x4), (5, .int x5)] → W p l e rmX6_familyOf s m args below meth c H locs 0 0 Q (F0 m 19 ls []) := by
  obtain ⟨hx, hb, hml, hown, hts⟩ := id C.1
  have hinRX6 : ∀ w ∈ u_ws RX6 TX6 16, w ∈ wsX6_familyOf := by decide +kernel
  have lk9 := hts (.fieldLink RX6 9 "GraveRowsModel" "now" "[I") (by decide +kernel)
  intro n
  induction n with
  | zero =>
    intro x3 x5 H locs ls h hI hl
    rw [f_X6_familyOf_L19] at h
    cases h
  | succ n ih =>
    intro x3 x5 H locs ls h hI hl
    rw [f_X6_familyOf_L19] at h
    refine lv_iload hx hb dX6_familyOf_19 (lv_at hl 4 rfl) ?_
    refine lv_aload_n hx hb dX6_familyOf_21 rfl (lv_at hl 0 rfl) ?_
    refine w_get (v := .ref (am 1)) C hinRX6 hI X.length wM_ob rfl 0 (by decide) lk9 rfl rfl dX6_familyOf_22 ?_
    refine lv_iconst (v := 0) hx hb dX6_familyOf_25 (by decide) ?_
    refine w_ldK C hI (X.length + (0 + 1)) (wM_ar (by decide)) 0 (by decide) (by decide) dX6_familyOf_26 ?_
    refine lv_icmp_ge (tgt := 145) hx hb dX6_familyOf_27 (by decide) (fun c_3 => ?_) (fun c_3 => ?_)
    · replace h := (if_pos c_3).symm.trans h
      exact hk _ _ _ _ _ h hI (lv_sub hl [0, 1, 2, 3, 4] rfl)
    · replace h := (if_neg c_3).symm.trans h
      refine lv_iconst (v := 0) hx hb dX6_familyOf_30 (by decide) ?_
      refine lv_istore (lv' := [(6, .int 0), (0, .ref (am 0)), (2, .int x2), (3, .int x3), (4, .int x4), (5, .int x5)]) hx hb dX6_familyOf_31 hl (by decide) rfl (fun ls hl => ?_)
      refine wl_X6_familyOf_L33 C st hret N x2 x4 x5 _ (fun a_19 a_20 H locs ls h hI hl => ?_) N x3 0 H locs ls h hI (lv_sub hl [1, 2, 3, 4, 5, 0] rfl)
      refine lv_iinc (v := x5 + 1) (lv' := [(5, .int (x5 + 1)), (0, .ref (am 0)), (2, .int x2), (3, .int a_19), (4, .int x4), (6, .int a_20)]) hx hb dX6_familyOf_139 hl (k := 4) rfl rfl (by decide) rfl (fun ls hl => ?_)
      refine lv_goto (tgt := 19) hx hb dX6_familyOf_142 (by decide) ?_
      exact ih _ _ _ _ _ h hI (lv_sub hl [1, 2, 3, 4, 0] rfl)
set_option maxHeartbeats 4000000 in
set_option maxRecDepth 100000 in
theorem wl_X6_familyOf_L7 {p : Program} {l : Launch} {e : Env} {s : State} {m : MethodId} {args : Array Value} {below : List Frame} {meth : Method} {c : Code} {Q : State → Prop} {A : Nat → Prop} {g : GP} {X : va_W} {am : Nat → Nat} {r : Int32}  (C : Cx p s m args c cX6_familyOf 8 wsX6_familyOf RX6 g A) (st : St) (hret : RetI p l e rmX6_familyOf s m args below meth c Q cX6_familyOf g A (wMX g X am st) (r)) (N : Nat) (x2 : Int32)  (k : Int32 → Int32 → Option (Int32)) (hk : ∀ (x3 : Int32) (x4 : Int32) (H : Heap) (locs : List Loc) (ls : Array Slot), k x3 x4 = some r → IW g A s.heap (wMX g X am st) H locs → lv_has ls 8 [(0, .ref (am 0)), (2, .int x2), (3, .int x3), (4, .int x4)] → W p l e rmX6_familyOf s m args below meth c H locs 0 0 Q (F0 m 148 ls [])) : ∀ (n : Nat) (x3 : Int32) (x4 : Int32) (H : Heap) (locs : List Loc) (ls : Array Slot), f_X6_familyOf_L7 N x2 st k n x3 x4 = some r → IW g A s.heap (wMX g X am st) H locs → lv_has ls 8 [(0, .ref (am 0)), (2, .int x2), (3, .int x3), (4, .int x4)] → W p l e rmX6_familyOf s m args below meth c H locs 0 0 Q (F0 m 7 ls []) := by
  obtain ⟨hx, hb, hml, hown, hts⟩ := id C.1
  intro n
  induction n with
  | zero =>
    intro x3 x4 H locs ls h hI hl
    rw [f_X6_familyOf_L7] at h
    cases h
  | succ n ih =>
    intro x3 x4 H locs ls h hI hl
    rw [f_X6_familyOf_L7] at h
    refine lv_iload_n hx hb dX6_familyOf_7 rfl (lv_at hl 2 rfl) ?_
    refine lv_iload hx hb dX6_familyOf_8 (lv_at hl 3 rfl) ?_
    refine lv_icmp_eq (tgt := 148) hx hb dX6_familyOf_10 (by decide) (fun c_2 => ?_) (fun c_2 => ?_)
    · replace h := (if_pos c_2).symm.trans h
      exact hk _ _ _ _ _ h hI (lv_sub hl [0, 1, 2, 3] rfl)
    · replace h := (if_neg c_2).symm.trans h
      refine lv_iload_n hx hb dX6_familyOf_13 rfl (lv_at hl 2 rfl) ?_
      refine lv_istore (lv' := [(4, .int x3), (0, .ref (am 0)), (2, .int x2), (3, .int x3)]) hx hb dX6_familyOf_14 hl (by decide) rfl (fun ls hl => ?_)
      refine lv_iconst (v := 0) hx hb dX6_familyOf_16 (by decide) ?_
      refine lv_istore (lv' := [(5, .int 0), (4, .int x3), (0, .ref (am 0)), (2, .int x2), (3, .int x3)]) hx hb dX6_familyOf_17 hl (by decide) rfl (fun ls hl => ?_)
      refine wl_X6_familyOf_L19 C st hret N x2 x3 _ (fun a_21 a_22 H locs ls h hI hl => ?_) N x3 0 H locs ls h hI (lv_sub hl [2, 3, 4, 1, 0] rfl)
      refine lv_goto (tgt := 7) hx hb dX6_familyOf_145 (by decide) ?_
      exact ih _ _ _ _ _ h hI (lv_sub hl [0, 1, 2, 3] rfl)
set_option maxHeartbeats 4000000 in
set_option maxRecDepth 100000 in
theorem c_X6_familyOf (l : Launch) (g : GP) (X : va_W) (am : Nat → Nat) (N : Nat) (x1 : Int32) (x2 : Int32)  (st : St) {r : Int32}  (h : f_X6_familyOf N st x1 x2 = some r) : MetI l yX6_familyOf wsX6_familyOf rmX6_familyOf g (wMX g X am) [.ref (am 0), .int x1, .int x2] st (r) st := by
  refine metI_of (cc := cX6_familyOf) (nL := 8) (ty := .int) (by decide) rfl (Nat.le_of_ble_eq_true rfl) rfl ?_
  intro p e s m below meth c Q A C hret H locs hI ls hl
  have C : Cx p s m _ c cX6_familyOf 8 wsX6_familyOf RX6 g A := C
  obtain ⟨hx, hb, hml, hown, hts⟩ := id C.1
  have hl : lv_has ls 8 [(0, .ref (am 0)), (1, .int x1), (2, .int x2)] := hl
  rw [f_X6_familyOf] at h
  refine lv_iconst (v := 1) hx hb dX6_familyOf_0 (by decide) ?_
  refine lv_iload_n hx hb dX6_familyOf_1 rfl (lv_at hl 1 rfl) ?_
  refine lv_ishl hx hb dX6_familyOf_2 ?_
  refine gen_i h (fun v_1 h => ?_)
  refine lv_istore_n (lv' := [(3, .int v_1), (0, .ref (am 0)), (1, .int x1), (2, .int x2)]) hx hb dX6_familyOf_3 rfl hl (by decide) rfl (fun ls hl => ?_)
  refine lv_iconst (v := 0) hx hb dX6_familyOf_4 (by decide) ?_
  refine lv_istore (lv' := [(4, .int 0), (3, .int v_1), (0, .ref (am 0)), (1, .int x1), (2, .int x2)]) hx hb dX6_familyOf_5 hl (by decide) rfl (fun ls hl => ?_)
  refine wl_X6_familyOf_L7 C st hret N x2 _ (fun a_23 a_24 H locs ls h hI hl => ?_) N v_1 0 H locs ls h hI (lv_sub hl [2, 4, 1, 0] rfl)
  refine lv_iload_n hx hb dX6_familyOf_148 rfl (lv_at hl 2 rfl) ?_
  obtain rfl := ret1 h
  exact hret H locs _ ls hI dX6_familyOf_149
theorem hv_X6_familyOf : yX6_familyOf.cls = RX6 ∧ yX6_familyOf.cls ≠ "java/lang/invoke/MethodHandle" ∧ yX6_familyOf.cls ≠ "java/lang/invoke/VarHandle" ∧ (parseMethodDescriptor yX6_familyOf.desc).map (fun d => d.parameters.length) = some 2 := by decide +kernel
/-! X6_leastOf -/
def rmX6_leastOf : Room := { frames := 0, cells := 0, slots := 0, locals := 0 }
def f_X6_leastOf_L2 (N : Nat) (x1 : Int32) (st : St) (k : Int32 → Option (Int32)) : Nat → Int32 → Option (Int32)
  | 0, _ => none
  | n + 1, x2 => if (x1 >>> (x2 &&& 31)) &&& (1 : Int32) = 0 then f_X6_leastOf_L2 N x1 st k n (x2 + 1) else k x2
def f_X6_leastOf (N : Nat) (st : St) (x1 : Int32) : Option (Int32) := f_X6_leastOf_L2 N x1 st (fun a_2 => some a_2) N 0
set_option maxHeartbeats 4000000 in
set_option maxRecDepth 100000 in
theorem wl_X6_leastOf_L2 {p : Program} {l : Launch} {e : Env} {s : State} {m : MethodId} {args : Array Value} {below : List Frame} {meth : Method} {c : Code} {Q : State → Prop} {A : Nat → Prop} {g : GP} {X : va_W} {am : Nat → Nat} {r : Int32}  (C : Cx p s m args c cX6_leastOf 3 wsX6_leastOf RX6 g A) (st : St) (hret : RetI p l e rmX6_leastOf s m args below meth c Q cX6_leastOf g A (wMX g X am st) (r)) (N : Nat) (x1 : Int32)  (k : Int32 → Option (Int32)) (hk : ∀ (x2 : Int32) (H : Heap) (locs : List Loc) (ls : Array Slot), k x2 = some r → IW g A s.heap (wMX g X am st) H locs → lv_has ls 3 [(1, .int x1), (2, .int x2)] → W p l e rmX6_leastOf s m args below meth c H locs 0 0 Q (F0 m 16 ls [])) : ∀ (n : Nat) (x2 : Int32) (H : Heap) (locs : List Loc) (ls : Array Slot), f_X6_leastOf_L2 N x1 st k n x2 = some r → IW g A s.heap (wMX g X am st) H locs → lv_has ls 3 [(1, .int x1), (2, .int x2)] → W p l e rmX6_leastOf s m args below meth c H locs 0 0 Q (F0 m 2 ls []) := by
  obtain ⟨hx, hb, hml, hown, hts⟩ := id C.1
  intro n
  induction n with
  | zero =>
    intro x2 H locs ls h hI hl
    rw [f_X6_leastOf_L2] at h
    cases h
  | succ n ih =>
    intro x2 H locs ls h hI hl
    rw [f_X6_leastOf_L2] at h
    refine lv_iload_n hx hb dX6_leastOf_2 rfl (lv_at hl 0 rfl) ?_
    refine lv_iload_n hx hb dX6_leastOf_3 rfl (lv_at hl 1 rfl) ?_
    refine lv_ishr hx hb dX6_leastOf_4 ?_
    refine lv_iconst (v := 1) hx hb dX6_leastOf_5 (by decide) ?_
    refine lv_iand hx hb dX6_leastOf_6 ?_
    refine lv_if_ne (tgt := 16) hx hb dX6_leastOf_7 (by decide) (fun c_1 => ?_) (fun c_1 => ?_)
    · replace h := (if_neg c_1).symm.trans h
      exact hk _ _ _ _ h hI (lv_sub hl [0, 1] rfl)
    · replace h := (if_pos c_1).symm.trans h
      refine lv_iinc (v := x2 + 1) (lv' := [(2, .int (x2 + 1)), (1, .int x1)]) hx hb dX6_leastOf_10 hl (k := 1) rfl rfl (by decide) rfl (fun ls hl => ?_)
      refine lv_goto (tgt := 2) hx hb dX6_leastOf_13 (by decide) ?_
      exact ih _ _ _ _ h hI (lv_sub hl [1, 0] rfl)
set_option maxHeartbeats 4000000 in
set_option maxRecDepth 100000 in
theorem c_X6_leastOf (l : Launch) (g : GP) (X : va_W) (am : Nat → Nat) (N : Nat) (x1 : Int32)  (st : St) {r : Int32}  (h : f_X6_leastOf N st x1 = some r) : MetI l yX6_leastOf wsX6_leastOf rmX6_leastOf g (wMX g X am) [.ref (am 0), .int x1] st (r) st := by
  refine metI_of (cc := cX6_leastOf) (nL := 3) (ty := .int) (by decide) rfl (Nat.le_of_ble_eq_true rfl) rfl ?_
  intro p e s m below meth c Q A C hret H locs hI ls hl
  have C : Cx p s m _ c cX6_leastOf 3 wsX6_leastOf RX6 g A := C
  obtain ⟨hx, hb, hml, hown, hts⟩ := id C.1
  have hl : lv_has ls 3 [(0, .ref (am 0)), (1, .int x1)] := hl
  rw [f_X6_leastOf] at h
  refine lv_iconst (v := 0) hx hb dX6_leastOf_0 (by decide) ?_
  refine lv_istore_n (lv' := [(2, .int 0), (0, .ref (am 0)), (1, .int x1)]) hx hb dX6_leastOf_1 rfl hl (by decide) rfl (fun ls hl => ?_)
  refine wl_X6_leastOf_L2 C st hret N x1 _ (fun a_2 H locs ls h hI hl => ?_) N 0 H locs ls h hI (lv_sub hl [2, 0] rfl)
  refine lv_iload_n hx hb dX6_leastOf_16 rfl (lv_at hl 1 rfl) ?_
  obtain rfl := ret1 h
  exact hret H locs _ ls hI dX6_leastOf_17
theorem hv_X6_leastOf : yX6_leastOf.cls = RX6 ∧ yX6_leastOf.cls ≠ "java/lang/invoke/MethodHandle" ∧ yX6_leastOf.cls ≠ "java/lang/invoke/VarHandle" ∧ (parseMethodDescriptor yX6_leastOf.desc).map (fun d => d.parameters.length) = some 1 := by decide +kernel
/-! X6_family -/
def rmX6_family : Room := { frames := 2, cells := 0, slots := 0, locals := 51 }
def f_X6_family (N : Nat) (st : St) (x1 : Int32) (x2 : Int32) : Option (Int32 × St) := bnd (f_X6_isGrave st x1) fun r_1 => if b2i r_1 = 0 then bd2 (f_X6_finding st (-100001 : Int32)) fun r_4 st_5 => some (r_4, st_5) else bnd (f_X6_within x2 0 99) fun r_6 => if b2i r_6 = 0 then bd2 (f_X6_finding st (-100001 : Int32)) fun r_13 st_14 => some (r_13, st_14) else bd1 (f_X6_familyOf N st x1 x2) fun r_9 => bd1 (f_X6_leastOf N st r_9) fun r_11 => some (r_11, st)
set_option maxHeartbeats 4000000 in
set_option maxRecDepth 100000 in
theorem c_X6_family (l : Launch) (g : GP) (X : va_W) (am : Nat → Nat) (N : Nat) (x1 : Int32) (x2 : Int32)  (st : St) {r : Int32} {st' : St} (h : f_X6_family N st x1 x2 = some (r, st')) : MetI l yX6_family wsX6_family rmX6_family g (wMX g X am) [.ref (am 0), .int x1, .int x2] st (r) st' := by
  refine metI_of (cc := cX6_family) (nL := 3) (ty := .int) (by decide) rfl (Nat.le_of_ble_eq_true rfl) rfl ?_
  intro p e s m below meth c Q A C hret H locs hI ls hl
  have C : Cx p s m _ c cX6_family 3 wsX6_family RX6 g A := C
  obtain ⟨hx, hb, hml, hown, hts⟩ := id C.1
  have hl : lv_has ls 3 [(0, .ref (am 0)), (1, .int x1), (2, .int x2)] := hl
  have lc48 := hts (.constant RX6 48 (-100001)) (by decide +kernel)
  rw [f_X6_family] at h
  refine lv_aload_n hx hb dX6_family_0 rfl (lv_at hl 0 rfl) ?_
  refine lv_iload_n hx hb dX6_family_1 rfl (lv_at hl 1 rfl) ?_
  refine callV_I (rest := []) C hI (c_X6_isGrave l g X am x1 st) (cwV 1 hts gX6_family_X6_isGrave rfl rfl rfl hv_X6_isGrave ⟨Nat.le_of_ble_eq_true rfl, Nat.le_of_ble_eq_true rfl⟩) (w_recv C hI X.length wM_ob rfl) rfl hl.1 rfl (Nat.le_of_ble_eq_true rfl) dX6_family_2 (fun H locs hI => ?_)
  refine gen_b h (fun r_1 h => ?_)
  refine lv_if_eq (tgt := 18) hx hb dX6_family_5 (by decide) (fun c_2 => ?_) (fun c_2 => ?_)
  · replace h := (if_pos c_2).symm.trans h
    refine lv_aload_n hx hb dX6_family_18 rfl (lv_at hl 0 rfl) ?_
    refine lv_ldc (v := (-100001)) hx hb hown lc48 dX6_family_19 ?_
    obtain ⟨r_4, st_5, hr_3, h⟩ := bd2_some h
    refine callV_I (rest := []) C hI (c_X6_finding l g X am (-100001 : Int32) st hr_3) (cwV 1 hts gX6_family_X6_finding rfl rfl rfl hv_X6_finding ⟨Nat.le_of_ble_eq_true rfl, Nat.le_of_ble_eq_true rfl⟩) (w_recv C hI X.length wM_ob rfl) rfl hl.1 rfl (Nat.le_of_ble_eq_true rfl) dX6_family_21 (fun H locs hI => ?_)
    obtain ⟨rfl, rfl⟩ := ret2 h
    exact hret H locs _ ls hI dX6_family_24
  · replace h := (if_neg c_2).symm.trans h
    refine lv_iload_n hx hb dX6_family_8 rfl (lv_at hl 2 rfl) ?_
    refine lv_iconst (v := 0) hx hb dX6_family_9 (by decide) ?_
    refine lv_bipush (v := 99) hx hb dX6_family_10 (by decide) ?_
    refine callS_S (rest := []) C.1 (c_X6_within l x2 0 99) (va_cwS 3 hts gX6_family_X6_within rfl rfl rfl hd_X6_within ⟨Nat.le_of_ble_eq_true rfl, Nat.le_of_ble_eq_true rfl⟩) rfl hl.1 rfl (Nat.le_of_ble_eq_true rfl) dX6_family_12 ?_
    refine gen_b h (fun r_6 h => ?_)
    refine lv_if_ne (tgt := 25) hx hb dX6_family_15 (by decide) (fun c_7 => ?_) (fun c_7 => ?_)
    · replace h := (if_neg c_7).symm.trans h
      refine lv_aload_n hx hb dX6_family_25 rfl (lv_at hl 0 rfl) ?_
      refine lv_aload_n hx hb dX6_family_26 rfl (lv_at hl 0 rfl) ?_
      refine lv_iload_n hx hb dX6_family_27 rfl (lv_at hl 1 rfl) ?_
      refine lv_iload_n hx hb dX6_family_28 rfl (lv_at hl 2 rfl) ?_
      obtain ⟨r_9, hr_8, h⟩ := bd1_some h
      refine callV_I (rest := [.ref (am 0)]) C hI (c_X6_familyOf l g X am N x1 x2 st hr_8) (cwV 2 hts gX6_family_X6_familyOf rfl rfl rfl hv_X6_familyOf ⟨Nat.le_of_ble_eq_true rfl, Nat.le_of_ble_eq_true rfl⟩) (w_recv C hI X.length wM_ob rfl) rfl hl.1 rfl (Nat.le_of_ble_eq_true rfl) dX6_family_29 (fun H locs hI => ?_)
      obtain ⟨r_11, hr_10, h⟩ := bd1_some h
      refine callV_I (rest := []) C hI (c_X6_leastOf l g X am N r_9 st hr_10) (cwV 1 hts gX6_family_X6_leastOf rfl rfl rfl hv_X6_leastOf ⟨Nat.le_of_ble_eq_true rfl, Nat.le_of_ble_eq_true rfl⟩) (w_recv C hI X.length wM_ob rfl) rfl hl.1 rfl (Nat.le_of_ble_eq_true rfl) dX6_family_32 (fun H locs hI => ?_)
      obtain ⟨rfl, rfl⟩ := ret2 h
      exact hret H locs _ ls hI dX6_family_35
    · replace h := (if_pos c_7).symm.trans h
      refine lv_aload_n hx hb dX6_family_18 rfl (lv_at hl 0 rfl) ?_
      refine lv_ldc (v := (-100001)) hx hb hown lc48 dX6_family_19 ?_
      obtain ⟨r_13, st_14, hr_12, h⟩ := bd2_some h
      refine callV_I (rest := []) C hI (c_X6_finding l g X am (-100001 : Int32) st hr_12) (cwV 1 hts gX6_family_X6_finding rfl rfl rfl hv_X6_finding ⟨Nat.le_of_ble_eq_true rfl, Nat.le_of_ble_eq_true rfl⟩) (w_recv C hI X.length wM_ob rfl) rfl hl.1 rfl (Nat.le_of_ble_eq_true rfl) dX6_family_21 (fun H locs hI => ?_)
      obtain ⟨rfl, rfl⟩ := ret2 h
      exact hret H locs _ ls hI dX6_family_24
theorem hv_X6_family : yX6_family.cls = RX6 ∧ yX6_family.cls ≠ "java/lang/invoke/MethodHandle" ∧ yX6_family.cls ≠ "java/lang/invoke/VarHandle" ∧ (parseMethodDescriptor yX6_family.desc).map (fun d => d.parameters.length) = some 2 := by decide +kernel
/-! X6_families -/
def rmX6_families : Room := { frames := 2, cells := 0, slots := 0, locals := 51 }
def f_X6_families_L21 (N : Nat) (x1 : Int32) (st : St) (k : Int32 → Int32 → Option (Int32 × St)) : Nat → Int32 → Int32 → Option (Int32 × St)
  | 0, _, _ => none
  | n + 1, x2, x3 => if st 0 0 ≤ x3 then k x2 x3 else bd1 (f_X6_familyOf N st x3 x1) fun r_5 => bd1 (f_X6_leastOf N st r_5) fun r_7 => if r_7 = x3 then bnd (x2 + 1) fun v_10 => f_X6_families_L21 N x1 st k n v_10 (x3 + 1) else bnd (x2 + 0) fun v_9 => f_X6_families_L21 N x1 st k n v_9 (x3 + 1)
def f_X6_families (N : Nat) (st : St) (x1 : Int32) : Option (Int32 × St) := bnd (f_X6_within x1 0 99) fun r_1 => if b2i r_1 = 0 then bd2 (f_X6_finding st (-100001 : Int32)) fun r_14 st_15 => some (r_14, st_15) else f_X6_families_L21 N x1 st (fun a_11 a_12 => some (a_11, st)) N 0 0
set_option maxHeartbeats 4000000 in
set_option maxRecDepth 100000 in
theorem wl_X6_families_L21 {p : Program} {l : Launch} {e : Env} {s : State} {m : MethodId} {args : Array Value} {below : List Frame} {meth : Method} {c : Code} {Q : State → Prop} {A : Nat → Prop} {g : GP} {X : va_W} {am : Nat → Nat} {r : Int32} {st' : St} (C : Cx p s m args c cX6_families 4 wsX6_families RX6 g A) (hret : RetI p l e rmX6_families s m args below meth c Q cX6_families g A (wMX g X am st') (r)) (N : Nat) (x1 : Int32) (st : St)  (k : Int32 → Int32 → Option (Int32 × St)) (hk : ∀ (x2 : Int32) (x3 : Int32) (H : Heap) (locs : List Loc) (ls : Array Slot), k x2 x3 = some (r, st') → IW g A s.heap (wMX g X am st) H locs → lv_has ls 4 [(0, .ref (am 0)), (1, .int x1), (2, .int x2), (3, .int x3)] → W p l e rmX6_families s m args below meth c H locs 0 0 Q (F0 m 59 ls [])) : ∀ (n : Nat) (x2 : Int32) (x3 : Int32) (H : Heap) (locs : List Loc) (ls : Array Slot), f_X6_families_L21 N x1 st k n x2 x3 = some (r, st') → IW g A s.heap (wMX g X am st) H locs → lv_has ls 4 [(0, .ref (am 0)), (1, .int x1), (2, .int x2), (3, .int x3)] → W p l e rmX6_families s m args below meth c H locs 0 0 Q (F0 m 21 ls []) := by
  obtain ⟨hx, hb, hml, hown, hts⟩ := id C.1
  have hinRX6 : ∀ w ∈ u_ws RX6 TX6 16, w ∈ wsX6_families := by decide +kernel
  have lk9 := hts (.fieldLink RX6 9 "GraveRowsModel" "now" "[I") (by decide +kernel)
  intro n
  induction n with
  | zero =>
    intro x2 x3 H locs ls h hI hl
    rw [f_X6_families_L21] at h
    cases h
  | succ n ih =>
    intro x2 x3 H locs ls h hI hl
    rw [f_X6_families_L21] at h
    refine lv_iload_n hx hb dX6_families_21 rfl (lv_at hl 3 rfl) ?_
    refine lv_aload_n hx hb dX6_families_22 rfl (lv_at hl 0 rfl) ?_
    refine w_get (v := .ref (am 1)) C hinRX6 hI X.length wM_ob rfl 0 (by decide) lk9 rfl rfl dX6_families_23 ?_
    refine lv_iconst (v := 0) hx hb dX6_families_26 (by decide) ?_
    refine w_ldK C hI (X.length + (0 + 1)) (wM_ar (by decide)) 0 (by decide) (by decide) dX6_families_27 ?_
    refine lv_icmp_ge (tgt := 59) hx hb dX6_families_28 (by decide) (fun c_3 => ?_) (fun c_3 => ?_)
    · replace h := (if_pos c_3).symm.trans h
      exact hk _ _ _ _ _ h hI (lv_sub hl [0, 1, 2, 3] rfl)
    · replace h := (if_neg c_3).symm.trans h
      refine lv_iload_n hx hb dX6_families_31 rfl (lv_at hl 2 rfl) ?_
      refine lv_aload_n hx hb dX6_families_32 rfl (lv_at hl 0 rfl) ?_
      refine lv_aload_n hx hb dX6_families_33 rfl (lv_at hl 0 rfl) ?_
      refine lv_iload_n hx hb dX6_families_34 rfl (lv_at hl 3 rfl) ?_
      refine lv_iload_n hx hb dX6_families_35 rfl (lv_at hl 1 rfl) ?_
      obtain ⟨r_5, hr_4, h⟩ := bd1_some h
      refine callV_I (rest := [.ref (am 0), .int x2]) C hI (c_X6_familyOf l g X am N x3 x1 st hr_4) (cwV 2 hts gX6_families_X6_familyOf rfl rfl rfl hv_X6_familyOf ⟨Nat.le_of_ble_eq_true rfl, Nat.le_of_ble_eq_true rfl⟩) (w_recv C hI X.length wM_ob rfl) rfl hl.1 rfl (Nat.le_of_ble_eq_true rfl) dX6_families_36 (fun H locs hI => ?_)
      obtain ⟨r_7, hr_6, h⟩ := bd1_some h
      refine callV_I (rest := [.int x2]) C hI (c_X6_leastOf l g X am N r_5 st hr_6) (cwV 1 hts gX6_families_X6_leastOf rfl rfl rfl hv_X6_leastOf ⟨Nat.le_of_ble_eq_true rfl, Nat.le_of_ble_eq_true rfl⟩) (w_recv C hI X.length wM_ob rfl) rfl hl.1 rfl (Nat.le_of_ble_eq_true rfl) dX6_families_39 (fun H locs hI => ?_)
      refine lv_iload_n hx hb dX6_families_42 rfl (lv_at hl 3 rfl) ?_
      refine lv_icmp_ne (tgt := 50) hx hb dX6_families_43 (by decide) (fun c_8 => ?_) (fun c_8 => ?_)
      · replace h := (if_neg c_8).symm.trans h
        refine lv_iconst (v := 0) hx hb dX6_families_50 (by decide) ?_
        refine lv_iadd hx hb dX6_families_51 ?_
        refine gen_i h (fun v_9 h => ?_)
        refine lv_istore_n (lv' := [(2, .int v_9), (0, .ref (am 0)), (1, .int x1), (3, .int x3)]) hx hb dX6_families_52 rfl hl (by decide) rfl (fun ls hl => ?_)
        refine lv_iinc (v := x3 + 1) (lv' := [(3, .int (x3 + 1)), (2, .int v_9), (0, .ref (am 0)), (1, .int x1)]) hx hb dX6_families_53 hl (k := 3) rfl rfl (by decide) rfl (fun ls hl => ?_)
        refine lv_goto (tgt := 21) hx hb dX6_families_56 (by decide) ?_
        exact ih _ _ _ _ _ h hI (lv_sub hl [2, 3, 1, 0] rfl)
      · replace h := (if_pos c_8).symm.trans h
        refine lv_iconst (v := 1) hx hb dX6_families_46 (by decide) ?_
        refine lv_goto (tgt := 51) hx hb dX6_families_47 (by decide) ?_
        refine lv_iadd hx hb dX6_families_51 ?_
        refine gen_i h (fun v_10 h => ?_)
        refine lv_istore_n (lv' := [(2, .int v_10), (0, .ref (am 0)), (1, .int x1), (3, .int x3)]) hx hb dX6_families_52 rfl hl (by decide) rfl (fun ls hl => ?_)
        refine lv_iinc (v := x3 + 1) (lv' := [(3, .int (x3 + 1)), (2, .int v_10), (0, .ref (am 0)), (1, .int x1)]) hx hb dX6_families_53 hl (k := 3) rfl rfl (by decide) rfl (fun ls hl => ?_)
        refine lv_goto (tgt := 21) hx hb dX6_families_56 (by decide) ?_
        exact ih _ _ _ _ _ h hI (lv_sub hl [2, 3, 1, 0] rfl)
set_option maxHeartbeats 4000000 in
set_option maxRecDepth 100000 in
theorem c_X6_families (l : Launch) (g : GP) (X : va_W) (am : Nat → Nat) (N : Nat) (x1 : Int32)  (st : St) {r : Int32} {st' : St} (h : f_X6_families N st x1 = some (r, st')) : MetI l yX6_families wsX6_families rmX6_families g (wMX g X am) [.ref (am 0), .int x1] st (r) st' := by
  refine metI_of (cc := cX6_families) (nL := 4) (ty := .int) (by decide) rfl (Nat.le_of_ble_eq_true rfl) rfl ?_
  intro p e s m below meth c Q A C hret H locs hI ls hl
  have C : Cx p s m _ c cX6_families 4 wsX6_families RX6 g A := C
  obtain ⟨hx, hb, hml, hown, hts⟩ := id C.1
  have hl : lv_has ls 4 [(0, .ref (am 0)), (1, .int x1)] := hl
  have lc48 := hts (.constant RX6 48 (-100001)) (by decide +kernel)
  rw [f_X6_families] at h
  refine lv_iload_n hx hb dX6_families_0 rfl (lv_at hl 1 rfl) ?_
  refine lv_iconst (v := 0) hx hb dX6_families_1 (by decide) ?_
  refine lv_bipush (v := 99) hx hb dX6_families_2 (by decide) ?_
  refine callS_S (rest := []) C.1 (c_X6_within l x1 0 99) (va_cwS 3 hts gX6_families_X6_within rfl rfl rfl hd_X6_within ⟨Nat.le_of_ble_eq_true rfl, Nat.le_of_ble_eq_true rfl⟩) rfl hl.1 rfl (Nat.le_of_ble_eq_true rfl) dX6_families_4 ?_
  refine gen_b h (fun r_1 h => ?_)
  refine lv_if_ne (tgt := 17) hx hb dX6_families_7 (by decide) (fun c_2 => ?_) (fun c_2 => ?_)
  · replace h := (if_neg c_2).symm.trans h
    refine lv_iconst (v := 0) hx hb dX6_families_17 (by decide) ?_
    refine lv_istore_n (lv' := [(2, .int 0), (0, .ref (am 0)), (1, .int x1)]) hx hb dX6_families_18 rfl hl (by decide) rfl (fun ls hl => ?_)
    refine lv_iconst (v := 0) hx hb dX6_families_19 (by decide) ?_
    refine lv_istore_n (lv' := [(3, .int 0), (2, .int 0), (0, .ref (am 0)), (1, .int x1)]) hx hb dX6_families_20 rfl hl (by decide) rfl (fun ls hl => ?_)
    refine wl_X6_families_L21 C hret N x1 st _ (fun a_11 a_12 H locs ls h hI hl => ?_) N 0 0 H locs ls h hI (lv_sub hl [2, 3, 1, 0] rfl)
    refine lv_iload_n hx hb dX6_families_59 rfl (lv_at hl 2 rfl) ?_
    obtain ⟨rfl, rfl⟩ := ret2 h
    exact hret H locs _ ls hI dX6_families_60
  · replace h := (if_pos c_2).symm.trans h
    refine lv_aload_n hx hb dX6_families_10 rfl (lv_at hl 0 rfl) ?_
    refine lv_ldc (v := (-100001)) hx hb hown lc48 dX6_families_11 ?_
    obtain ⟨r_14, st_15, hr_13, h⟩ := bd2_some h
    refine callV_I (rest := []) C hI (c_X6_finding l g X am (-100001 : Int32) st hr_13) (cwV 1 hts gX6_families_X6_finding rfl rfl rfl hv_X6_finding ⟨Nat.le_of_ble_eq_true rfl, Nat.le_of_ble_eq_true rfl⟩) (w_recv C hI X.length wM_ob rfl) rfl hl.1 rfl (Nat.le_of_ble_eq_true rfl) dX6_families_13 (fun H locs hI => ?_)
    obtain ⟨rfl, rfl⟩ := ret2 h
    exact hret H locs _ ls hI dX6_families_16
theorem hv_X6_families : yX6_families.cls = RX6 ∧ yX6_families.cls ≠ "java/lang/invoke/MethodHandle" ∧ yX6_families.cls ≠ "java/lang/invoke/VarHandle" ∧ (parseMethodDescriptor yX6_families.desc).map (fun d => d.parameters.length) = some 1 := by decide +kernel
/-! X6_both -/
def rmX6_both : Room := { frames := 1, cells := 0, slots := 0, locals := 22 }
def f_X6_both (N : Nat) (st : St) (x1 : Int32) (x2 : Int32) : Option (Int32) := ck 116 (32 + x1) fun j_1 => ck 116 (32 + x2) fun j_2 => bd1 (f_X6_many N ((st 0 j_1) &&& (st 0 j_2))) fun r_4 => some r_4
set_option maxHeartbeats 4000000 in
set_option maxRecDepth 100000 in
theorem c_X6_both (l : Launch) (g : GP) (X : va_W) (am : Nat → Nat) (N : Nat) (x1 : Int32) (x2 : Int32)  (st : St) {r : Int32}  (h : f_X6_both N st x1 x2 = some r) : MetI l yX6_both wsX6_both rmX6_both g (wMX g X am) [.ref (am 0), .int x1, .int x2] st (r) st := by
  refine metI_of (cc := cX6_both) (nL := 3) (ty := .int) (by decide) rfl (Nat.le_of_ble_eq_true rfl) rfl ?_
  intro p e s m below meth c Q A C hret H locs hI ls hl
  have C : Cx p s m _ c cX6_both 3 wsX6_both RX6 g A := C
  obtain ⟨hx, hb, hml, hown, hts⟩ := id C.1
  have hl : lv_has ls 3 [(0, .ref (am 0)), (1, .int x1), (2, .int x2)] := hl
  have hinRX6 : ∀ w ∈ u_ws RX6 TX6 16, w ∈ wsX6_both := by decide +kernel
  have lk9 := hts (.fieldLink RX6 9 "GraveRowsModel" "now" "[I") (by decide +kernel)
  rw [f_X6_both] at h
  refine lv_aload_n hx hb dX6_both_0 rfl (lv_at hl 0 rfl) ?_
  refine w_get (v := .ref (am 1)) C hinRX6 hI X.length wM_ob rfl 0 (by decide) lk9 rfl rfl dX6_both_1 ?_
  refine lv_bipush (v := 32) hx hb dX6_both_4 (by decide) ?_
  refine lv_iload_n hx hb dX6_both_6 rfl (lv_at hl 1 rfl) ?_
  refine lv_iadd hx hb dX6_both_7 ?_
  refine w_ld C hI (X.length + (0 + 1)) (wM_ar (by decide)) h dX6_both_8 (fun j_1 hj_1 h => ?_)
  refine lv_aload_n hx hb dX6_both_9 rfl (lv_at hl 0 rfl) ?_
  refine w_get (v := .ref (am 1)) C hinRX6 hI X.length wM_ob rfl 0 (by decide) lk9 rfl rfl dX6_both_10 ?_
  refine lv_bipush (v := 32) hx hb dX6_both_13 (by decide) ?_
  refine lv_iload_n hx hb dX6_both_15 rfl (lv_at hl 2 rfl) ?_
  refine lv_iadd hx hb dX6_both_16 ?_
  refine w_ld C hI (X.length + (0 + 1)) (wM_ar (by decide)) h dX6_both_17 (fun j_2 hj_2 h => ?_)
  refine lv_iand hx hb dX6_both_18 ?_
  obtain ⟨r_4, hr_3, h⟩ := bd1_some h
  refine callS_S (rest := []) C.1 (c_X6_many l N ((st 0 j_1) &&& (st 0 j_2)) hr_3) (va_cwS 1 hts gX6_both_X6_many rfl rfl rfl hd_X6_many ⟨Nat.le_of_ble_eq_true rfl, Nat.le_of_ble_eq_true rfl⟩) rfl hl.1 rfl (Nat.le_of_ble_eq_true rfl) dX6_both_19 ?_
  obtain rfl := ret1 h
  exact hret H locs _ ls hI dX6_both_22
theorem hv_X6_both : yX6_both.cls = RX6 ∧ yX6_both.cls ≠ "java/lang/invoke/MethodHandle" ∧ yX6_both.cls ≠ "java/lang/invoke/VarHandle" ∧ (parseMethodDescriptor yX6_both.desc).map (fun d => d.parameters.length) = some 2 := by decide +kernel
/-! X6_either -/
def rmX6_either : Room := { frames := 1, cells := 0, slots := 0, locals := 22 }
def f_X6_either (N : Nat) (st : St) (x1 : Int32) (x2 : Int32) : Option (Int32) := ck 116 (32 + x1) fun j_1 => ck 116 (32 + x2) fun j_2 => bd1 (f_X6_many N ((st 0 j_1) ||| (st 0 j_2))) fun r_4 => if r_4 = 0 then some 1 else some r_4
set_option maxHeartbeats 4000000 in
set_option maxRecDepth 100000 in
theorem c_X6_either (l : Launch) (g : GP) (X : va_W) (am : Nat → Nat) (N : Nat) (x1 : Int32) (x2 : Int32)  (st : St) {r : Int32}  (h : f_X6_either N st x1 x2 = some r) : MetI l yX6_either wsX6_either rmX6_either g (wMX g X am) [.ref (am 0), .int x1, .int x2] st (r) st := by
  refine metI_of (cc := cX6_either) (nL := 4) (ty := .int) (by decide) rfl (Nat.le_of_ble_eq_true rfl) rfl ?_
  intro p e s m below meth c Q A C hret H locs hI ls hl
  have C : Cx p s m _ c cX6_either 4 wsX6_either RX6 g A := C
  obtain ⟨hx, hb, hml, hown, hts⟩ := id C.1
  have hl : lv_has ls 4 [(0, .ref (am 0)), (1, .int x1), (2, .int x2)] := hl
  have hinRX6 : ∀ w ∈ u_ws RX6 TX6 16, w ∈ wsX6_either := by decide +kernel
  have lk9 := hts (.fieldLink RX6 9 "GraveRowsModel" "now" "[I") (by decide +kernel)
  rw [f_X6_either] at h
  refine lv_aload_n hx hb dX6_either_0 rfl (lv_at hl 0 rfl) ?_
  refine w_get (v := .ref (am 1)) C hinRX6 hI X.length wM_ob rfl 0 (by decide) lk9 rfl rfl dX6_either_1 ?_
  refine lv_bipush (v := 32) hx hb dX6_either_4 (by decide) ?_
  refine lv_iload_n hx hb dX6_either_6 rfl (lv_at hl 1 rfl) ?_
  refine lv_iadd hx hb dX6_either_7 ?_
  refine w_ld C hI (X.length + (0 + 1)) (wM_ar (by decide)) h dX6_either_8 (fun j_1 hj_1 h => ?_)
  refine lv_aload_n hx hb dX6_either_9 rfl (lv_at hl 0 rfl) ?_
  refine w_get (v := .ref (am 1)) C hinRX6 hI X.length wM_ob rfl 0 (by decide) lk9 rfl rfl dX6_either_10 ?_
  refine lv_bipush (v := 32) hx hb dX6_either_13 (by decide) ?_
  refine lv_iload_n hx hb dX6_either_15 rfl (lv_at hl 2 rfl) ?_
  refine lv_iadd hx hb dX6_either_16 ?_
  refine w_ld C hI (X.length + (0 + 1)) (wM_ar (by decide)) h dX6_either_17 (fun j_2 hj_2 h => ?_)
  refine lv_ior hx hb dX6_either_18 ?_
  obtain ⟨r_4, hr_3, h⟩ := bd1_some h
  refine callS_S (rest := []) C.1 (c_X6_many l N ((st 0 j_1) ||| (st 0 j_2)) hr_3) (va_cwS 1 hts gX6_either_X6_many rfl rfl rfl hd_X6_many ⟨Nat.le_of_ble_eq_true rfl, Nat.le_of_ble_eq_true rfl⟩) rfl hl.1 rfl (Nat.le_of_ble_eq_true rfl) dX6_either_19 ?_
  refine lv_istore_n (lv' := [(3, .int r_4), (0, .ref (am 0)), (1, .int x1), (2, .int x2)]) hx hb dX6_either_22 rfl hl (by decide) rfl (fun ls hl => ?_)
  refine lv_iload_n hx hb dX6_either_23 rfl (lv_at hl 0 rfl) ?_
  refine lv_if_ne (tgt := 31) hx hb dX6_either_24 (by decide) (fun c_5 => ?_) (fun c_5 => ?_)
  · replace h := (if_neg c_5).symm.trans h
    refine lv_iload_n hx hb dX6_either_31 rfl (lv_at hl 0 rfl) ?_
    obtain rfl := ret1 h
    exact hret H locs _ ls hI dX6_either_32
  · replace h := (if_pos c_5).symm.trans h
    refine lv_iconst (v := 1) hx hb dX6_either_27 (by decide) ?_
    refine lv_goto (tgt := 32) hx hb dX6_either_28 (by decide) ?_
    obtain rfl := ret1 h
    exact hret H locs _ ls hI dX6_either_32
theorem hv_X6_either : yX6_either.cls = RX6 ∧ yX6_either.cls ≠ "java/lang/invoke/MethodHandle" ∧ yX6_either.cls ≠ "java/lang/invoke/VarHandle" ∧ (parseMethodDescriptor yX6_either.desc).map (fun d => d.parameters.length) = some 2 := by decide +kernel
/-! X6_like -/
def rmX6_like : Room := { frames := 2, cells := 0, slots := 0, locals := 45 }
def f_X6_like_L43 (N : Nat) (x3 : Bool) (x4 : Int32) (x5 : Int32) (st : St) (k : Int32 → Option (Int32 × St)) : Nat → Int32 → Option (Int32 × St)
  | 0, _ => none
  | n + 1, x6 => nz x6 <| if x4 - x4 / x6 * x6 = 0 then nz x6 <| if x5 - x5 / x6 * x6 = 0 then k x6 else f_X6_like_L43 N x3 x4 x5 st k n (x6 + (-1)) else f_X6_like_L43 N x3 x4 x5 st k n (x6 + (-1))
def f_X6_like (N : Nat) (st : St) (x1 : Int32) (x2 : Int32) (x3 : Bool) : Option (Int32 × St) := bnd (f_X6_isGrave st x1) fun r_1 => if b2i r_1 = 0 then bd2 (f_X6_finding st (-100001 : Int32)) fun r_4 st_5 => some (r_4, st_5) else bnd (f_X6_isGrave st x2) fun r_6 => if b2i r_6 = 0 then bd2 (f_X6_finding st (-100001 : Int32)) fun r_21 st_22 => some (r_21, st_22) else bd1 (f_X6_both N st x1 x2) fun r_9 => bd1 (f_X6_either N st x1 x2) fun r_11 => f_X6_like_L43 N x3 r_9 r_11 st (fun a_16 => if b2i x3 = 0 then nz a_16 <| some (r_9 / a_16, st) else nz a_16 <| some (r_11 / a_16, st)) N r_11
set_option maxHeartbeats 4000000 in
set_option maxRecDepth 100000 in
theorem wl_X6_like_L43 {p : Program} {l : Launch} {e : Env} {s : State} {m : MethodId} {args : Array Value} {below : List Frame} {meth : Method} {c : Code} {Q : State → Prop} {A : Nat → Prop} {g : GP} {X : va_W} {am : Nat → Nat} {r : Int32} {st' : St} (C : Cx p s m args c cX6_like 7 wsX6_like RX6 g A) (hret : RetI p l e rmX6_like s m args below meth c Q cX6_like g A (wMX g X am st') (r)) (N : Nat) (x3 : Bool) (x4 : Int32) (x5 : Int32) (st : St)  (k : Int32 → Option (Int32 × St)) (hk : ∀ (x6 : Int32) (H : Heap) (locs : List Loc) (ls : Array Slot), k x6 = some (r, st') → IW g A s.heap (wMX g X am st) H locs → lv_has ls 7 [(3, .int (b2i x3)), (4, .int x4), (5, .int x5), (6, .int x6)] → W p l e rmX6_like s m args below meth c H locs 0 0 Q (F0 m 65 ls [])) : ∀ (n : Nat) (x6 : Int32) (H : Heap) (locs : List Loc) (ls : Array Slot), f_X6_like_L43 N x3 x4 x5 st k n x6 = some (r, st') → IW g A s.heap (wMX g X am st) H locs → lv_has ls 7 [(3, .int (b2i x3)), (4, .int x4), (5, .int x5), (6, .int x6)] → W p l e rmX6_like s m args below meth c H locs 0 0 Q (F0 m 43 ls []) := by
  obtain ⟨hx, hb, hml, hown, hts⟩ := id C.1
  intro n
  induction n with
  | zero =>
    intro x6 H locs ls h hI hl
    rw [f_X6_like_L43] at h
    cases h
  | succ n ih =>
    intro x6 H locs ls h hI hl
    rw [f_X6_like_L43] at h
    refine lv_iload hx hb dX6_like_43 (lv_at hl 1 rfl) ?_
    refine lv_iload hx hb dX6_like_45 (lv_at hl 3 rfl) ?_
    obtain ⟨hz_12, h⟩ := nz_some h
    refine lv_irem hx hb dX6_like_47 hz_12 ?_
    refine lv_if_ne (tgt := 59) hx hb dX6_like_48 (by decide) (fun c_13 => ?_) (fun c_13 => ?_)
    · replace h := (if_neg c_13).symm.trans h
      refine lv_iinc (v := x6 + (-1)) (lv' := [(6, .int (x6 + (-1))), (3, .int (b2i x3)), (4, .int x4), (5, .int x5)]) hx hb dX6_like_59 hl (k := 3) rfl rfl (by decide) rfl (fun ls hl => ?_)
      refine lv_goto (tgt := 43) hx hb dX6_like_62 (by decide) ?_
      exact ih _ _ _ _ h hI (lv_sub hl [1, 2, 3, 0] rfl)
    · replace h := (if_pos c_13).symm.trans h
      refine lv_iload hx hb dX6_like_51 (lv_at hl 2 rfl) ?_
      refine lv_iload hx hb dX6_like_53 (lv_at hl 3 rfl) ?_
      obtain ⟨hz_14, h⟩ := nz_some h
      refine lv_irem hx hb dX6_like_55 hz_14 ?_
      refine lv_if_eq (tgt := 65) hx hb dX6_like_56 (by decide) (fun c_15 => ?_) (fun c_15 => ?_)
      · replace h := (if_pos c_15).symm.trans h
        exact hk _ _ _ _ h hI (lv_sub hl [0, 1, 2, 3] rfl)
      · replace h := (if_neg c_15).symm.trans h
        refine lv_iinc (v := x6 + (-1)) (lv' := [(6, .int (x6 + (-1))), (3, .int (b2i x3)), (4, .int x4), (5, .int x5)]) hx hb dX6_like_59 hl (k := 3) rfl rfl (by decide) rfl (fun ls hl => ?_)
        refine lv_goto (tgt := 43) hx hb dX6_like_62 (by decide) ?_
        exact ih _ _ _ _ h hI (lv_sub hl [1, 2, 3, 0] rfl)
set_option maxHeartbeats 4000000 in
set_option maxRecDepth 100000 in
theorem c_X6_like (l : Launch) (g : GP) (X : va_W) (am : Nat → Nat) (N : Nat) (x1 : Int32) (x2 : Int32) (x3 : Bool)  (st : St) {r : Int32} {st' : St} (h : f_X6_like N st x1 x2 x3 = some (r, st')) : MetI l yX6_like wsX6_like rmX6_like g (wMX g X am) [.ref (am 0), .int x1, .int x2, .int (b2i x3)] st (r) st' := by
  refine metI_of (cc := cX6_like) (nL := 7) (ty := .int) (by decide) rfl (Nat.le_of_ble_eq_true rfl) rfl ?_
  intro p e s m below meth c Q A C hret H locs hI ls hl
  have C : Cx p s m _ c cX6_like 7 wsX6_like RX6 g A := C
  obtain ⟨hx, hb, hml, hown, hts⟩ := id C.1
  have hl : lv_has ls 7 [(0, .ref (am 0)), (1, .int x1), (2, .int x2), (3, .int (b2i x3))] := hl
  have lc48 := hts (.constant RX6 48 (-100001)) (by decide +kernel)
  rw [f_X6_like] at h
  refine lv_aload_n hx hb dX6_like_0 rfl (lv_at hl 0 rfl) ?_
  refine lv_iload_n hx hb dX6_like_1 rfl (lv_at hl 1 rfl) ?_
  refine callV_I (rest := []) C hI (c_X6_isGrave l g X am x1 st) (cwV 1 hts gX6_like_X6_isGrave rfl rfl rfl hv_X6_isGrave ⟨Nat.le_of_ble_eq_true rfl, Nat.le_of_ble_eq_true rfl⟩) (w_recv C hI X.length wM_ob rfl) rfl hl.1 rfl (Nat.le_of_ble_eq_true rfl) dX6_like_2 (fun H locs hI => ?_)
  refine gen_b h (fun r_1 h => ?_)
  refine lv_if_eq (tgt := 16) hx hb dX6_like_5 (by decide) (fun c_2 => ?_) (fun c_2 => ?_)
  · replace h := (if_pos c_2).symm.trans h
    refine lv_aload_n hx hb dX6_like_16 rfl (lv_at hl 0 rfl) ?_
    refine lv_ldc (v := (-100001)) hx hb hown lc48 dX6_like_17 ?_
    obtain ⟨r_4, st_5, hr_3, h⟩ := bd2_some h
    refine callV_I (rest := []) C hI (c_X6_finding l g X am (-100001 : Int32) st hr_3) (cwV 1 hts gX6_like_X6_finding rfl rfl rfl hv_X6_finding ⟨Nat.le_of_ble_eq_true rfl, Nat.le_of_ble_eq_true rfl⟩) (w_recv C hI X.length wM_ob rfl) rfl hl.1 rfl (Nat.le_of_ble_eq_true rfl) dX6_like_19 (fun H locs hI => ?_)
    obtain ⟨rfl, rfl⟩ := ret2 h
    exact hret H locs _ ls hI dX6_like_22
  · replace h := (if_neg c_2).symm.trans h
    refine lv_aload_n hx hb dX6_like_8 rfl (lv_at hl 0 rfl) ?_
    refine lv_iload_n hx hb dX6_like_9 rfl (lv_at hl 2 rfl) ?_
    refine callV_I (rest := []) C hI (c_X6_isGrave l g X am x2 st) (cwV 1 hts gX6_like_X6_isGrave rfl rfl rfl hv_X6_isGrave ⟨Nat.le_of_ble_eq_true rfl, Nat.le_of_ble_eq_true rfl⟩) (w_recv C hI X.length wM_ob rfl) rfl hl.1 rfl (Nat.le_of_ble_eq_true rfl) dX6_like_10 (fun H locs hI => ?_)
    refine gen_b h (fun r_6 h => ?_)
    refine lv_if_ne (tgt := 23) hx hb dX6_like_13 (by decide) (fun c_7 => ?_) (fun c_7 => ?_)
    · replace h := (if_neg c_7).symm.trans h
      refine lv_aload_n hx hb dX6_like_23 rfl (lv_at hl 0 rfl) ?_
      refine lv_iload_n hx hb dX6_like_24 rfl (lv_at hl 1 rfl) ?_
      refine lv_iload_n hx hb dX6_like_25 rfl (lv_at hl 2 rfl) ?_
      obtain ⟨r_9, hr_8, h⟩ := bd1_some h
      refine callV_I (rest := []) C hI (c_X6_both l g X am N x1 x2 st hr_8) (cwV 2 hts gX6_like_X6_both rfl rfl rfl hv_X6_both ⟨Nat.le_of_ble_eq_true rfl, Nat.le_of_ble_eq_true rfl⟩) (w_recv C hI X.length wM_ob rfl) rfl hl.1 rfl (Nat.le_of_ble_eq_true rfl) dX6_like_26 (fun H locs hI => ?_)
      refine lv_istore (lv' := [(4, .int r_9), (0, .ref (am 0)), (1, .int x1), (2, .int x2), (3, .int (b2i x3))]) hx hb dX6_like_29 hl (by decide) rfl (fun ls hl => ?_)
      refine lv_aload_n hx hb dX6_like_31 rfl (lv_at hl 1 rfl) ?_
      refine lv_iload_n hx hb dX6_like_32 rfl (lv_at hl 2 rfl) ?_
      refine lv_iload_n hx hb dX6_like_33 rfl (lv_at hl 3 rfl) ?_
      obtain ⟨r_11, hr_10, h⟩ := bd1_some h
      refine callV_I (rest := []) C hI (c_X6_either l g X am N x1 x2 st hr_10) (cwV 2 hts gX6_like_X6_either rfl rfl rfl hv_X6_either ⟨Nat.le_of_ble_eq_true rfl, Nat.le_of_ble_eq_true rfl⟩) (w_recv C hI X.length wM_ob rfl) rfl hl.1 rfl (Nat.le_of_ble_eq_true rfl) dX6_like_34 (fun H locs hI => ?_)
      refine lv_istore (lv' := [(5, .int r_11), (4, .int r_9), (0, .ref (am 0)), (1, .int x1), (2, .int x2), (3, .int (b2i x3))]) hx hb dX6_like_37 hl (by decide) rfl (fun ls hl => ?_)
      refine lv_iload hx hb dX6_like_39 (lv_at hl 0 rfl) ?_
      refine lv_istore (lv' := [(6, .int r_11), (5, .int r_11), (4, .int r_9), (0, .ref (am 0)), (1, .int x1), (2, .int x2), (3, .int (b2i x3))]) hx hb dX6_like_41 hl (by decide) rfl (fun ls hl => ?_)
      refine wl_X6_like_L43 C hret N x3 r_9 r_11 st _ (fun a_16 H locs ls h hI hl => ?_) N r_11 H locs ls h hI (lv_sub hl [6, 2, 1, 0] rfl)
      refine lv_iload_n hx hb dX6_like_65 rfl (lv_at hl 0 rfl) ?_
      refine lv_if_eq (tgt := 77) hx hb dX6_like_66 (by decide) (fun c_17 => ?_) (fun c_17 => ?_)
      · replace h := (if_pos c_17).symm.trans h
        refine lv_iload hx hb dX6_like_77 (lv_at hl 1 rfl) ?_
        refine lv_iload hx hb dX6_like_79 (lv_at hl 3 rfl) ?_
        obtain ⟨hz_18, h⟩ := nz_some h
        refine lv_idiv hx hb dX6_like_81 hz_18 ?_
        obtain ⟨rfl, rfl⟩ := ret2 h
        exact hret H locs _ ls hI dX6_like_82
      · replace h := (if_neg c_17).symm.trans h
        refine lv_iload hx hb dX6_like_69 (lv_at hl 2 rfl) ?_
        refine lv_iload hx hb dX6_like_71 (lv_at hl 3 rfl) ?_
        obtain ⟨hz_19, h⟩ := nz_some h
        refine lv_idiv hx hb dX6_like_73 hz_19 ?_
        refine lv_goto (tgt := 82) hx hb dX6_like_74 (by decide) ?_
        obtain ⟨rfl, rfl⟩ := ret2 h
        exact hret H locs _ ls hI dX6_like_82
    · replace h := (if_pos c_7).symm.trans h
      refine lv_aload_n hx hb dX6_like_16 rfl (lv_at hl 0 rfl) ?_
      refine lv_ldc (v := (-100001)) hx hb hown lc48 dX6_like_17 ?_
      obtain ⟨r_21, st_22, hr_20, h⟩ := bd2_some h
      refine callV_I (rest := []) C hI (c_X6_finding l g X am (-100001 : Int32) st hr_20) (cwV 1 hts gX6_like_X6_finding rfl rfl rfl hv_X6_finding ⟨Nat.le_of_ble_eq_true rfl, Nat.le_of_ble_eq_true rfl⟩) (w_recv C hI X.length wM_ob rfl) rfl hl.1 rfl (Nat.le_of_ble_eq_true rfl) dX6_like_19 (fun H locs hI => ?_)
      obtain ⟨rfl, rfl⟩ := ret2 h
      exact hret H locs _ ls hI dX6_like_22
theorem hv_X6_like : yX6_like.cls = RX6 ∧ yX6_like.cls ≠ "java/lang/invoke/MethodHandle" ∧ yX6_like.cls ≠ "java/lang/invoke/VarHandle" ∧ (parseMethodDescriptor yX6_like.desc).map (fun d => d.parameters.length) = some 3 := by decide +kernel
/-! X6_nearest -/
def rmX6_nearest : Room := { frames := 2, cells := 0, slots := 0, locals := 45 }
def f_X6_nearest_L19 (N : Nat) (x1 : Int32) (st : St) (k : Int32 → Int32 → Option (Int32 × St)) : Nat → Int32 → Int32 → Option (Int32 × St)
  | 0, _, _ => none
  | n + 1, x2, x3 => if st 0 0 ≤ x3 then k x2 x3 else if x3 = x1 then f_X6_nearest_L19 N x1 st k n x2 (x3 + 1) else if x2 < 0 then f_X6_nearest_L19 N x1 st k n x3 (x3 + 1) else bd1 (f_X6_both N st x1 x3) fun r_7 => bd1 (f_X6_either N st x1 x2) fun r_9 => bd1 (f_X6_both N st x1 x2) fun r_11 => bd1 (f_X6_either N st x1 x3) fun r_13 => if r_7 * r_9 ≤ r_11 * r_13 then f_X6_nearest_L19 N x1 st k n x2 (x3 + 1) else f_X6_nearest_L19 N x1 st k n x3 (x3 + 1)
def f_X6_nearest (N : Nat) (st : St) (x1 : Int32) : Option (Int32 × St) := bnd (f_X6_isGrave st x1) fun r_1 => if b2i r_1 = 0 then bd2 (f_X6_finding st (-100001 : Int32)) fun r_22 st_23 => some (r_22, st_23) else f_X6_nearest_L19 N x1 st (fun a_15 a_16 => if 0 ≤ a_15 then some (a_15, st) else bd2 (f_X6_finding st (-100006 : Int32)) fun r_19 st_20 => some (r_19, st_20)) N (-1 : Int32) 0
set_option maxHeartbeats 4000000 in
set_option maxRecDepth 100000 in
theorem wl_X6_nearest_L19 {p : Program} {l : Launch} {e : Env} {s : State} {m : MethodId} {args : Array Value} {below : List Frame} {meth : Method} {c : Code} {Q : State → Prop} {A : Nat → Prop} {g : GP} {X : va_W} {am : Nat → Nat} {r : Int32} {st' : St} (C : Cx p s m args c cX6_nearest 4 wsX6_nearest RX6 g A) (hret : RetI p l e rmX6_nearest s m args below meth c Q cX6_nearest g A (wMX g X am st') (r)) (N : Nat) (x1 : Int32) (st : St)  (k : Int32 → Int32 → Option (Int32 × St)) (hk : ∀ (x2 : Int32) (x3 : Int32) (H : Heap) (locs : List Loc) (ls : Array Slot), k x2 x3 = some (r, st') → IW g A s.heap (wMX g X am st) H locs → lv_has ls 4 [(0, .ref (am 0)), (1, .int x1), (2, .int x2), (3, .int x3)] → W p l e rmX6_nearest s m args below meth c H locs 0 0 Q (F0 m 75 ls [])) : ∀ (n : Nat) (x2 : Int32) (x3 : Int32) (H : Heap) (locs : List Loc) (ls : Array Slot), f_X6_nearest_L19 N x1 st k n x2 x3 = some (r, st') → IW g A s.heap (wMX g X am st) H locs → lv_has ls 4 [(0, .ref (am 0)), (1, .int x1), (2, .int x2), (3, .int x3)] → W p l e rmX6_nearest s m args below meth c H locs 0 0 Q (F0 m 19 ls []) := by
  obtain ⟨hx, hb, hml, hown, hts⟩ := id C.1
  have hinRX6 : ∀ w ∈ u_ws RX6 TX6 16, w ∈ wsX6_nearest := by decide +kernel
  have lk9 := hts (.fieldLink RX6 9 "GraveRowsModel" "now" "[I") (by decide +kernel)
  intro n
  induction n with
  | zero =>
    intro x2 x3 H locs ls h hI hl
    rw [f_X6_nearest_L19] at h
    cases h
  | succ n ih =>
    intro x2 x3 H locs ls h hI hl
    rw [f_X6_nearest_L19] at h
    refine lv_iload_n hx hb dX6_nearest_19 rfl (lv_at hl 3 rfl) ?_
    refine lv_aload_n hx hb dX6_nearest_20 rfl (lv_at hl 0 rfl) ?_
    refine w_get (v := .ref (am 1)) C hinRX6 hI X.length wM_ob rfl 0 (by decide) lk9 rfl rfl dX6_nearest_21 ?_
    refine lv_iconst (v := 0) hx hb dX6_nearest_24 (by decide) ?_
    refine w_ldK C hI (X.length + (0 + 1)) (wM_ar (by decide)) 0 (by decide) (by decide) dX6_nearest_25 ?_
    refine lv_icmp_ge (tgt := 75) hx hb dX6_nearest_26 (by decide) (fun c_3 => ?_) (fun c_3 => ?_)
    · replace h := (if_pos c_3).symm.trans h
      exact hk _ _ _ _ _ h hI (lv_sub hl [0, 1, 2, 3] rfl)
    · replace h := (if_neg c_3).symm.trans h
      refine lv_iload_n hx hb dX6_nearest_29 rfl (lv_at hl 3 rfl) ?_
      refine lv_iload_n hx hb dX6_nearest_30 rfl (lv_at hl 1 rfl) ?_
      refine lv_icmp_eq (tgt := 69) hx hb dX6_nearest_31 (by decide) (fun c_4 => ?_) (fun c_4 => ?_)
      · replace h := (if_pos c_4).symm.trans h
        refine lv_iinc (v := x3 + 1) (lv' := [(3, .int (x3 + 1)), (0, .ref (am 0)), (1, .int x1), (2, .int x2)]) hx hb dX6_nearest_69 hl (k := 3) rfl rfl (by decide) rfl (fun ls hl => ?_)
        refine lv_goto (tgt := 19) hx hb dX6_nearest_72 (by decide) ?_
        exact ih _ _ _ _ _ h hI (lv_sub hl [1, 2, 3, 0] rfl)
      · replace h := (if_neg c_4).symm.trans h
        refine lv_iload_n hx hb dX6_nearest_34 rfl (lv_at hl 2 rfl) ?_
        refine lv_if_lt (tgt := 67) hx hb dX6_nearest_35 (by decide) (fun c_5 => ?_) (fun c_5 => ?_)
        · replace h := (if_pos c_5).symm.trans h
          refine lv_iload_n hx hb dX6_nearest_67 rfl (lv_at hl 3 rfl) ?_
          refine lv_istore_n (lv' := [(2, .int x3), (0, .ref (am 0)), (1, .int x1), (3, .int x3)]) hx hb dX6_nearest_68 rfl hl (by decide) rfl (fun ls hl => ?_)
          refine lv_iinc (v := x3 + 1) (lv' := [(3, .int (x3 + 1)), (2, .int x3), (0, .ref (am 0)), (1, .int x1)]) hx hb dX6_nearest_69 hl (k := 3) rfl rfl (by decide) rfl (fun ls hl => ?_)
          refine lv_goto (tgt := 19) hx hb dX6_nearest_72 (by decide) ?_
          exact ih _ _ _ _ _ h hI (lv_sub hl [2, 3, 1, 0] rfl)
        · replace h := (if_neg c_5).symm.trans h
          refine lv_aload_n hx hb dX6_nearest_38 rfl (lv_at hl 0 rfl) ?_
          refine lv_iload_n hx hb dX6_nearest_39 rfl (lv_at hl 1 rfl) ?_
          refine lv_iload_n hx hb dX6_nearest_40 rfl (lv_at hl 3 rfl) ?_
          obtain ⟨r_7, hr_6, h⟩ := bd1_some h
          refine callV_I (rest := []) C hI (c_X6_both l g X am N x1 x3 st hr_6) (cwV 2 hts gX6_nearest_X6_both rfl rfl rfl hv_X6_both ⟨Nat.le_of_ble_eq_true rfl, Nat.le_of_ble_eq_true rfl⟩) (w_recv C hI X.length wM_ob rfl) rfl hl.1 rfl (Nat.le_of_ble_eq_true rfl) dX6_nearest_41 (fun H locs hI => ?_)
          refine lv_aload_n hx hb dX6_nearest_44 rfl (lv_at hl 0 rfl) ?_
          refine lv_iload_n hx hb dX6_nearest_45 rfl (lv_at hl 1 rfl) ?_
          refine lv_iload_n hx hb dX6_nearest_46 rfl (lv_at hl 2 rfl) ?_
          obtain ⟨r_9, hr_8, h⟩ := bd1_some h
          refine callV_I (rest := [.int r_7]) C hI (c_X6_either l g X am N x1 x2 st hr_8) (cwV 2 hts gX6_nearest_X6_either rfl rfl rfl hv_X6_either ⟨Nat.le_of_ble_eq_true rfl, Nat.le_of_ble_eq_true rfl⟩) (w_recv C hI X.length wM_ob rfl) rfl hl.1 rfl (Nat.le_of_ble_eq_true rfl) dX6_nearest_47 (fun H locs hI => ?_)
          refine lv_imul hx hb dX6_nearest_50 ?_
          refine lv_aload_n hx hb dX6_nearest_51 rfl (lv_at hl 0 rfl) ?_
          refine lv_iload_n hx hb dX6_nearest_52 rfl (lv_at hl 1 rfl) ?_
          refine lv_iload_n hx hb dX6_nearest_53 rfl (lv_at hl 2 rfl) ?_
          obtain ⟨r_11, hr_10, h⟩ := bd1_some h
          refine callV_I (rest := [.int (r_7 * r_9)]) C hI (c_X6_both l g X am N x1 x2 st hr_10) (cwV 2 hts gX6_nearest_X6_both rfl rfl rfl hv_X6_both ⟨Nat.le_of_ble_eq_true rfl, Nat.le_of_ble_eq_true rfl⟩) (w_recv C hI X.length wM_ob rfl) rfl hl.1 rfl (Nat.le_of_ble_eq_true rfl) dX6_nearest_54 (fun H locs hI => ?_)
          refine lv_aload_n hx hb dX6_nearest_57 rfl (lv_at hl 0 rfl) ?_
          refine lv_iload_n hx hb dX6_nearest_58 rfl (lv_at hl 1 rfl) ?_
          refine lv_iload_n hx hb dX6_nearest_59 rfl (lv_at hl 3 rfl) ?_
          obtain ⟨r_13, hr_12, h⟩ := bd1_some h
          refine callV_I (rest := [.int r_11, .int (r_7 * r_9)]) C hI (c_X6_either l g X am N x1 x3 st hr_12) (cwV 2 hts gX6_nearest_X6_either rfl rfl rfl hv_X6_either ⟨Nat.le_of_ble_eq_true rfl, Nat.le_of_ble_eq_true rfl⟩) (w_recv C hI X.length wM_ob rfl) rfl hl.1 rfl (Nat.le_of_ble_eq_true rfl) dX6_nearest_60 (fun H locs hI => ?_)
          refine lv_imul hx hb dX6_nearest_63 ?_
          refine lv_icmp_le (tgt := 69) hx hb dX6_nearest_64 (by decide) (fun c_14 => ?_) (fun c_14 => ?_)
          · replace h := (if_pos c_14).symm.trans h
            refine lv_iinc (v := x3 + 1) (lv' := [(3, .int (x3 + 1)), (0, .ref (am 0)), (1, .int x1), (2, .int x2)]) hx hb dX6_nearest_69 hl (k := 3) rfl rfl (by decide) rfl (fun ls hl => ?_)
            refine lv_goto (tgt := 19) hx hb dX6_nearest_72 (by decide) ?_
            exact ih _ _ _ _ _ h hI (lv_sub hl [1, 2, 3, 0] rfl)
          · replace h := (if_neg c_14).symm.trans h
            refine lv_iload_n hx hb dX6_nearest_67 rfl (lv_at hl 3 rfl) ?_
            refine lv_istore_n (lv' := [(2, .int x3), (0, .ref (am 0)), (1, .int x1), (3, .int x3)]) hx hb dX6_nearest_68 rfl hl (by decide) rfl (fun ls hl => ?_)
            refine lv_iinc (v := x3 + 1) (lv' := [(3, .int (x3 + 1)), (2, .int x3), (0, .ref (am 0)), (1, .int x1)]) hx hb dX6_nearest_69 hl (k := 3) rfl rfl (by decide) rfl (fun ls hl => ?_)
            refine lv_goto (tgt := 19) hx hb dX6_nearest_72 (by decide) ?_
            exact ih _ _ _ _ _ h hI (lv_sub hl [2, 3, 1, 0] rfl)
set_option maxHeartbeats 4000000 in
set_option maxRecDepth 100000 in
theorem c_X6_nearest (l : Launch) (g : GP) (X : va_W) (am : Nat → Nat) (N : Nat) (x1 : Int32)  (st : St) {r : Int32} {st' : St} (h : f_X6_nearest N st x1 = some (r, st')) : MetI l yX6_nearest wsX6_nearest rmX6_nearest g (wMX g X am) [.ref (am 0), .int x1] st (r) st' := by
  refine metI_of (cc := cX6_nearest) (nL := 4) (ty := .int) (by decide) rfl (Nat.le_of_ble_eq_true rfl) rfl ?_
  intro p e s m below meth c Q A C hret H locs hI ls hl
  have C : Cx p s m _ c cX6_nearest 4 wsX6_nearest RX6 g A := C
  obtain ⟨hx, hb, hml, hown, hts⟩ := id C.1
  have hl : lv_has ls 4 [(0, .ref (am 0)), (1, .int x1)] := hl
  have lc83 := hts (.constant RX6 83 (-100006)) (by decide +kernel)
  have lc48 := hts (.constant RX6 48 (-100001)) (by decide +kernel)
  rw [f_X6_nearest] at h
  refine lv_aload_n hx hb dX6_nearest_0 rfl (lv_at hl 0 rfl) ?_
  refine lv_iload_n hx hb dX6_nearest_1 rfl (lv_at hl 1 rfl) ?_
  refine callV_I (rest := []) C hI (c_X6_isGrave l g X am x1 st) (cwV 1 hts gX6_nearest_X6_isGrave rfl rfl rfl hv_X6_isGrave ⟨Nat.le_of_ble_eq_true rfl, Nat.le_of_ble_eq_true rfl⟩) (w_recv C hI X.length wM_ob rfl) rfl hl.1 rfl (Nat.le_of_ble_eq_true rfl) dX6_nearest_2 (fun H locs hI => ?_)
  refine gen_b h (fun r_1 h => ?_)
  refine lv_if_ne (tgt := 15) hx hb dX6_nearest_5 (by decide) (fun c_2 => ?_) (fun c_2 => ?_)
  · replace h := (if_neg c_2).symm.trans h
    refine lv_iconst (v := (-1)) hx hb dX6_nearest_15 (by decide) ?_
    refine lv_istore_n (lv' := [(2, .int (-1 : Int32)), (0, .ref (am 0)), (1, .int x1)]) hx hb dX6_nearest_16 rfl hl (by decide) rfl (fun ls hl => ?_)
    refine lv_iconst (v := 0) hx hb dX6_nearest_17 (by decide) ?_
    refine lv_istore_n (lv' := [(3, .int 0), (2, .int (-1 : Int32)), (0, .ref (am 0)), (1, .int x1)]) hx hb dX6_nearest_18 rfl hl (by decide) rfl (fun ls hl => ?_)
    refine wl_X6_nearest_L19 C hret N x1 st _ (fun a_15 a_16 H locs ls h hI hl => ?_) N (-1 : Int32) 0 H locs ls h hI (lv_sub hl [2, 3, 1, 0] rfl)
    refine lv_iload_n hx hb dX6_nearest_75 rfl (lv_at hl 2 rfl) ?_
    refine lv_if_ge (tgt := 88) hx hb dX6_nearest_76 (by decide) (fun c_17 => ?_) (fun c_17 => ?_)
    · replace h := (if_pos c_17).symm.trans h
      refine lv_iload_n hx hb dX6_nearest_88 rfl (lv_at hl 2 rfl) ?_
      obtain ⟨rfl, rfl⟩ := ret2 h
      exact hret H locs _ ls hI dX6_nearest_89
    · replace h := (if_neg c_17).symm.trans h
      refine lv_aload_n hx hb dX6_nearest_79 rfl (lv_at hl 0 rfl) ?_
      refine lv_ldc (v := (-100006)) hx hb hown lc83 dX6_nearest_80 ?_
      obtain ⟨r_19, st_20, hr_18, h⟩ := bd2_some h
      refine callV_I (rest := []) C hI (c_X6_finding l g X am (-100006 : Int32) st hr_18) (cwV 1 hts gX6_nearest_X6_finding rfl rfl rfl hv_X6_finding ⟨Nat.le_of_ble_eq_true rfl, Nat.le_of_ble_eq_true rfl⟩) (w_recv C hI X.length wM_ob rfl) rfl hl.1 rfl (Nat.le_of_ble_eq_true rfl) dX6_nearest_82 (fun H locs hI => ?_)
      refine lv_goto (tgt := 89) hx hb dX6_nearest_85 (by decide) ?_
      obtain ⟨rfl, rfl⟩ := ret2 h
      exact hret H locs _ ls hI dX6_nearest_89
  · replace h := (if_pos c_2).symm.trans h
    refine lv_aload_n hx hb dX6_nearest_8 rfl (lv_at hl 0 rfl) ?_
    refine lv_ldc (v := (-100001)) hx hb hown lc48 dX6_nearest_9 ?_
    obtain ⟨r_22, st_23, hr_21, h⟩ := bd2_some h
    refine callV_I (rest := []) C hI (c_X6_finding l g X am (-100001 : Int32) st hr_21) (cwV 1 hts gX6_nearest_X6_finding rfl rfl rfl hv_X6_finding ⟨Nat.le_of_ble_eq_true rfl, Nat.le_of_ble_eq_true rfl⟩) (w_recv C hI X.length wM_ob rfl) rfl hl.1 rfl (Nat.le_of_ble_eq_true rfl) dX6_nearest_11 (fun H locs hI => ?_)
    obtain ⟨rfl, rfl⟩ := ret2 h
    exact hret H locs _ ls hI dX6_nearest_14
theorem hv_X6_nearest : yX6_nearest.cls = RX6 ∧ yX6_nearest.cls ≠ "java/lang/invoke/MethodHandle" ∧ yX6_nearest.cls ≠ "java/lang/invoke/VarHandle" ∧ (parseMethodDescriptor yX6_nearest.desc).map (fun d => d.parameters.length) = some 1 := by decide +kernel
