/-! X6_isMark -/
def rmX6_isMark : Room := { frames := 1, cells := 0, slots := 0, locals := 22 }
def f_X6_isMark (x0 : Int32) : Bool := bnd (f_X6_within x0 0 5) fun r_1 => r_1
set_option maxHeartbeats 4000000 in
set_option maxRecDepth 100000 in
theorem c_X6_isMark (l : Launch) (x0 : Int32) : MetS l yX6_isMark wsX6_isMark rmX6_isMark [.int x0] (b2i (f_X6_isMark x0)) := by
  refine metS_of (cc := cX6_isMark) (nL := 1) (ty := .boolean) (by decide) rfl (Nat.le_of_ble_eq_true rfl) (nar_b _) ?_
  intro p e s m below meth c Q C hret ls hl
  have C : CallFix p m c cX6_isMark 1 s _ wsX6_isMark RX6 := C
  obtain ⟨hx, hb, hml, hown, hts⟩ := id C
  have hl : lv_has ls 1 [(0, .int x0)] := hl
  generalize hgen : f_X6_isMark x0 = r at hret
  have h := hgen
  rw [f_X6_isMark] at h
  refine lv_iload_n hx hb dX6_isMark_0 rfl (lv_at hl 0 rfl) ?_
  refine lv_iconst (v := 0) hx hb dX6_isMark_1 (by decide) ?_
  refine lv_iconst (v := 5) hx hb dX6_isMark_2 (by decide) ?_
  refine callS_S (rest := []) C (c_X6_within l x0 0 5) (va_cwS 3 hts gX6_isMark_X6_within rfl rfl rfl hd_X6_within ⟨Nat.le_of_ble_eq_true rfl, Nat.le_of_ble_eq_true rfl⟩) rfl hl.1 rfl (Nat.le_of_ble_eq_true rfl) dX6_isMark_3 ?_
  refine gen_b h (fun r_1 h => ?_)
  subst h
  exact hret _ ls dX6_isMark_6
theorem hd_X6_isMark : yX6_isMark.cls ≠ "java/lang/invoke/MethodHandle" ∧ yX6_isMark.cls ≠ "java/lang/invoke/VarHandle" ∧ (parseMethodDescriptor yX6_isMark.desc).map (fun d => d.parameters.length) = some 1 := by decide +kernel
/-! X6_mark -/
def rmX6_mark : Room := { frames := 2, cells := 0, slots := 0, locals := 43 }
def f_X6_mark (st : St) (x1 : Int32) (x2 : Int32) (x3 : Bool) : Option (Int32 × St) := bnd (f_X6_isGrave st x1) fun r_1 => if b2i r_1 = 0 then bd2 (f_X6_finding st (-100001 : Int32)) fun r_4 st_5 => some (r_4, st_5) else bnd (f_X6_isMark x2) fun r_6 => if b2i r_6 = 0 then bd2 (f_X6_finding st (-100001 : Int32)) fun r_30 st_31 => some (r_30, st_31) else bnd ((1 : Int32) <<< (x2 &&& 31)) fun v_8 => ck 116 (72 + x1) fun j_9 => if (st 0 j_9) &&& v_8 = 0 then ck 116 (72 + x1) fun j_11 => sto 116 st 0 (72 + x1) ((st 0 j_11) ||| v_8) fun st_12 => if b2i x3 = 0 then ck 116 (82 + x1) fun j_14 => sto 116 st_12 0 (82 + x1) ((st_12 0 j_14) &&& (v_8 ^^^ (-1 : Int32))) fun st_15 => some (1, st_15) else ck 116 (82 + x1) fun j_17 => sto 116 st_12 0 (82 + x1) ((st_12 0 j_17) ||| v_8) fun st_18 => some (1, st_18) else ck 116 (72 + x1) fun j_20 => sto 116 st 0 (72 + x1) ((st 0 j_20) ||| v_8) fun st_21 => if b2i x3 = 0 then ck 116 (82 + x1) fun j_23 => sto 116 st_21 0 (82 + x1) ((st_21 0 j_23) &&& (v_8 ^^^ (-1 : Int32))) fun st_24 => some (0, st_24) else ck 116 (82 + x1) fun j_26 => sto 116 st_21 0 (82 + x1) ((st_21 0 j_26) ||| v_8) fun st_27 => some (0, st_27)
set_option maxHeartbeats 4000000 in
set_option maxRecDepth 100000 in
theorem c_X6_mark (l : Launch) (g : GP) (X : va_W) (am : Nat → Nat) (x1 : Int32) (x2 : Int32) (x3 : Bool)  (st : St) {r : Int32} {st' : St} (h : f_X6_mark st x1 x2 x3 = some (r, st')) : MetI l yX6_mark wsX6_mark rmX6_mark g (wMX g X am) [.ref (am 0), .int x1, .int x2, .int (b2i x3)] st (r) st' := by
  refine metI_of (cc := cX6_mark) (nL := 6) (ty := .int) (by decide) rfl (Nat.le_of_ble_eq_true rfl) rfl ?_
  intro p e s m below meth c Q A C hret H locs hI ls hl
  have C : Cx p s m _ c cX6_mark 6 wsX6_mark RX6 g A := C
  obtain ⟨hx, hb, hml, hown, hts⟩ := id C.1
  have hl : lv_has ls 6 [(0, .ref (am 0)), (1, .int x1), (2, .int x2), (3, .int (b2i x3))] := hl
  have lc48 := hts (.constant RX6 48 (-100001)) (by decide +kernel)
  have hinRX6 : ∀ w ∈ u_ws RX6 TX6 16, w ∈ wsX6_mark := by decide +kernel
  have lk9 := hts (.fieldLink RX6 9 "GraveRowsModel" "now" "[I") (by decide +kernel)
  rw [f_X6_mark] at h
  refine lv_aload_n hx hb dX6_mark_0 rfl (lv_at hl 0 rfl) ?_
  refine lv_iload_n hx hb dX6_mark_1 rfl (lv_at hl 1 rfl) ?_
  refine callV_I (rest := []) C hI (c_X6_isGrave l g X am x1 st) (cwV 1 hts gX6_mark_X6_isGrave rfl rfl rfl hv_X6_isGrave ⟨Nat.le_of_ble_eq_true rfl, Nat.le_of_ble_eq_true rfl⟩) (w_recv C hI X.length wM_ob rfl) rfl hl.1 rfl (Nat.le_of_ble_eq_true rfl) dX6_mark_2 (fun H locs hI => ?_)
  refine gen_b h (fun r_1 h => ?_)
  refine lv_if_eq (tgt := 15) hx hb dX6_mark_5 (by decide) (fun c_2 => ?_) (fun c_2 => ?_)
  · replace h := (if_pos c_2).symm.trans h
    refine lv_aload_n hx hb dX6_mark_15 rfl (lv_at hl 0 rfl) ?_
    refine lv_ldc (v := (-100001)) hx hb hown lc48 dX6_mark_16 ?_
    obtain ⟨r_4, st_5, hr_3, h⟩ := bd2_some h
    refine callV_I (rest := []) C hI (c_X6_finding l g X am (-100001 : Int32) st hr_3) (cwV 1 hts gX6_mark_X6_finding rfl rfl rfl hv_X6_finding ⟨Nat.le_of_ble_eq_true rfl, Nat.le_of_ble_eq_true rfl⟩) (w_recv C hI X.length wM_ob rfl) rfl hl.1 rfl (Nat.le_of_ble_eq_true rfl) dX6_mark_18 (fun H locs hI => ?_)
    obtain ⟨rfl, rfl⟩ := ret2 h
    exact hret H locs _ ls hI dX6_mark_21
  · replace h := (if_neg c_2).symm.trans h
    refine lv_iload_n hx hb dX6_mark_8 rfl (lv_at hl 2 rfl) ?_
    refine callS_S (rest := []) C.1 (c_X6_isMark l x2) (va_cwS 1 hts gX6_mark_X6_isMark rfl rfl rfl hd_X6_isMark ⟨Nat.le_of_ble_eq_true rfl, Nat.le_of_ble_eq_true rfl⟩) rfl hl.1 rfl (Nat.le_of_ble_eq_true rfl) dX6_mark_9 ?_
    refine gen_b h (fun r_6 h => ?_)
    refine lv_if_ne (tgt := 22) hx hb dX6_mark_12 (by decide) (fun c_7 => ?_) (fun c_7 => ?_)
    · replace h := (if_neg c_7).symm.trans h
      refine lv_iconst (v := 1) hx hb dX6_mark_22 (by decide) ?_
      refine lv_iload_n hx hb dX6_mark_23 rfl (lv_at hl 2 rfl) ?_
      refine lv_ishl hx hb dX6_mark_24 ?_
      refine gen_i h (fun v_8 h => ?_)
      refine lv_istore (lv' := [(4, .int v_8), (0, .ref (am 0)), (1, .int x1), (2, .int x2), (3, .int (b2i x3))]) hx hb dX6_mark_25 hl (by decide) rfl (fun ls hl => ?_)
      refine lv_aload_n hx hb dX6_mark_27 rfl (lv_at hl 1 rfl) ?_
      refine w_get (v := .ref (am 1)) C hinRX6 hI X.length wM_ob rfl 0 (by decide) lk9 rfl rfl dX6_mark_28 ?_
      refine lv_bipush (v := 72) hx hb dX6_mark_31 (by decide) ?_
      refine lv_iload_n hx hb dX6_mark_33 rfl (lv_at hl 2 rfl) ?_
      refine lv_iadd hx hb dX6_mark_34 ?_
      refine w_ld C hI (X.length + (0 + 1)) (wM_ar (by decide)) h dX6_mark_35 (fun j_9 hj_9 h => ?_)
      refine lv_iload hx hb dX6_mark_36 (lv_at hl 0 rfl) ?_
      refine lv_iand hx hb dX6_mark_38 ?_
      refine lv_if_eq (tgt := 46) hx hb dX6_mark_39 (by decide) (fun c_10 => ?_) (fun c_10 => ?_)
      · replace h := (if_pos c_10).symm.trans h
        refine lv_iconst (v := 0) hx hb dX6_mark_46 (by decide) ?_
        refine lv_istore (lv' := [(5, .int 0), (4, .int v_8), (0, .ref (am 0)), (1, .int x1), (2, .int x2), (3, .int (b2i x3))]) hx hb dX6_mark_47 hl (by decide) rfl (fun ls hl => ?_)
        refine lv_aload_n hx hb dX6_mark_49 rfl (lv_at hl 2 rfl) ?_
        refine w_get (v := .ref (am 1)) C hinRX6 hI X.length wM_ob rfl 0 (by decide) lk9 rfl rfl dX6_mark_50 ?_
        refine lv_bipush (v := 72) hx hb dX6_mark_53 (by decide) ?_
        refine lv_iload_n hx hb dX6_mark_55 rfl (lv_at hl 3 rfl) ?_
        refine lv_iadd hx hb dX6_mark_56 ?_
        refine lv_dup2_11 hx hb dX6_mark_57 rfl rfl ?_
        refine w_ld C hI (X.length + (0 + 1)) (wM_ar (by decide)) h dX6_mark_58 (fun j_11 hj_11 h => ?_)
        refine lv_iload hx hb dX6_mark_59 (lv_at hl 1 rfl) ?_
        refine lv_ior hx hb dX6_mark_61 ?_
        refine w_st C hI (X.length + (0 + 1)) (wM_ar (by decide)) (wM_setar (by decide)) h dX6_mark_62 (fun st_12 H locs h hI => ?_)
        refine lv_aload_n hx hb dX6_mark_63 rfl (lv_at hl 2 rfl) ?_
        refine w_get (v := .ref (am 1)) C hinRX6 hI X.length wM_ob rfl 0 (by decide) lk9 rfl rfl dX6_mark_64 ?_
        refine lv_bipush (v := 82) hx hb dX6_mark_67 (by decide) ?_
        refine lv_iload_n hx hb dX6_mark_69 rfl (lv_at hl 3 rfl) ?_
        refine lv_iadd hx hb dX6_mark_70 ?_
        refine lv_iload_n hx hb dX6_mark_71 rfl (lv_at hl 5 rfl) ?_
        refine lv_if_eq (tgt := 90) hx hb dX6_mark_72 (by decide) (fun c_13 => ?_) (fun c_13 => ?_)
        · replace h := (if_pos c_13).symm.trans h
          refine lv_aload_n hx hb dX6_mark_90 rfl (lv_at hl 2 rfl) ?_
          refine w_get (v := .ref (am 1)) C hinRX6 hI X.length wM_ob rfl 0 (by decide) lk9 rfl rfl dX6_mark_91 ?_
          refine lv_bipush (v := 82) hx hb dX6_mark_94 (by decide) ?_
          refine lv_iload_n hx hb dX6_mark_96 rfl (lv_at hl 3 rfl) ?_
          refine lv_iadd hx hb dX6_mark_97 ?_
          refine w_ld C hI (X.length + (0 + 1)) (wM_ar (by decide)) h dX6_mark_98 (fun j_14 hj_14 h => ?_)
          refine lv_iload hx hb dX6_mark_99 (lv_at hl 1 rfl) ?_
          refine lv_iconst (v := (-1)) hx hb dX6_mark_101 (by decide) ?_
          refine lv_ixor hx hb dX6_mark_102 ?_
          refine lv_iand hx hb dX6_mark_103 ?_
          refine w_st C hI (X.length + (0 + 1)) (wM_ar (by decide)) (wM_setar (by decide)) h dX6_mark_104 (fun st_15 H locs h hI => ?_)
          refine lv_iload hx hb dX6_mark_105 (lv_at hl 0 rfl) ?_
          refine lv_if_eq (tgt := 114) hx hb dX6_mark_107 (by decide) (fun c_16 => ?_) (fun c_16 => absurd (by decide) c_16)
          refine lv_iconst (v := 1) hx hb dX6_mark_114 (by decide) ?_
          obtain ⟨rfl, rfl⟩ := ret2 h
          exact hret H locs _ ls hI dX6_mark_115
        · replace h := (if_neg c_13).symm.trans h
          refine lv_aload_n hx hb dX6_mark_75 rfl (lv_at hl 2 rfl) ?_
          refine w_get (v := .ref (am 1)) C hinRX6 hI X.length wM_ob rfl 0 (by decide) lk9 rfl rfl dX6_mark_76 ?_
          refine lv_bipush (v := 82) hx hb dX6_mark_79 (by decide) ?_
          refine lv_iload_n hx hb dX6_mark_81 rfl (lv_at hl 3 rfl) ?_
          refine lv_iadd hx hb dX6_mark_82 ?_
          refine w_ld C hI (X.length + (0 + 1)) (wM_ar (by decide)) h dX6_mark_83 (fun j_17 hj_17 h => ?_)
          refine lv_iload hx hb dX6_mark_84 (lv_at hl 1 rfl) ?_
          refine lv_ior hx hb dX6_mark_86 ?_
          refine lv_goto (tgt := 104) hx hb dX6_mark_87 (by decide) ?_
          refine w_st C hI (X.length + (0 + 1)) (wM_ar (by decide)) (wM_setar (by decide)) h dX6_mark_104 (fun st_18 H locs h hI => ?_)
          refine lv_iload hx hb dX6_mark_105 (lv_at hl 0 rfl) ?_
          refine lv_if_eq (tgt := 114) hx hb dX6_mark_107 (by decide) (fun c_19 => ?_) (fun c_19 => absurd (by decide) c_19)
          refine lv_iconst (v := 1) hx hb dX6_mark_114 (by decide) ?_
          obtain ⟨rfl, rfl⟩ := ret2 h
          exact hret H locs _ ls hI dX6_mark_115
      · replace h := (if_neg c_10).symm.trans h
        refine lv_iconst (v := 1) hx hb dX6_mark_42 (by decide) ?_
        refine lv_goto (tgt := 47) hx hb dX6_mark_43 (by decide) ?_
        refine lv_istore (lv' := [(5, .int 1), (4, .int v_8), (0, .ref (am 0)), (1, .int x1), (2, .int x2), (3, .int (b2i x3))]) hx hb dX6_mark_47 hl (by decide) rfl (fun ls hl => ?_)
        refine lv_aload_n hx hb dX6_mark_49 rfl (lv_at hl 2 rfl) ?_
        refine w_get (v := .ref (am 1)) C hinRX6 hI X.length wM_ob rfl 0 (by decide) lk9 rfl rfl dX6_mark_50 ?_
        refine lv_bipush (v := 72) hx hb dX6_mark_53 (by decide) ?_
        refine lv_iload_n hx hb dX6_mark_55 rfl (lv_at hl 3 rfl) ?_
        refine lv_iadd hx hb dX6_mark_56 ?_
        refine lv_dup2_11 hx hb dX6_mark_57 rfl rfl ?_
        refine w_ld C hI (X.length + (0 + 1)) (wM_ar (by decide)) h dX6_mark_58 (fun j_20 hj_20 h => ?_)
        refine lv_iload hx hb dX6_mark_59 (lv_at hl 1 rfl) ?_
        refine lv_ior hx hb dX6_mark_61 ?_
        refine w_st C hI (X.length + (0 + 1)) (wM_ar (by decide)) (wM_setar (by decide)) h dX6_mark_62 (fun st_21 H locs h hI => ?_)
        refine lv_aload_n hx hb dX6_mark_63 rfl (lv_at hl 2 rfl) ?_
        refine w_get (v := .ref (am 1)) C hinRX6 hI X.length wM_ob rfl 0 (by decide) lk9 rfl rfl dX6_mark_64 ?_
        refine lv_bipush (v := 82) hx hb dX6_mark_67 (by decide) ?_
        refine lv_iload_n hx hb dX6_mark_69 rfl (lv_at hl 3 rfl) ?_
        refine lv_iadd hx hb dX6_mark_70 ?_
        refine lv_iload_n hx hb dX6_mark_71 rfl (lv_at hl 5 rfl) ?_
        refine lv_if_eq (tgt := 90) hx hb dX6_mark_72 (by decide) (fun c_22 => ?_) (fun c_22 => ?_)
        · replace h := (if_pos c_22).symm.trans h
          refine lv_aload_n hx hb dX6_mark_90 rfl (lv_at hl 2 rfl) ?_
          refine w_get (v := .ref (am 1)) C hinRX6 hI X.length wM_ob rfl 0 (by decide) lk9 rfl rfl dX6_mark_91 ?_
          refine lv_bipush (v := 82) hx hb dX6_mark_94 (by decide) ?_
          refine lv_iload_n hx hb dX6_mark_96 rfl (lv_at hl 3 rfl) ?_
          refine lv_iadd hx hb dX6_mark_97 ?_
          refine w_ld C hI (X.length + (0 + 1)) (wM_ar (by decide)) h dX6_mark_98 (fun j_23 hj_23 h => ?_)
          refine lv_iload hx hb dX6_mark_99 (lv_at hl 1 rfl) ?_
          refine lv_iconst (v := (-1)) hx hb dX6_mark_101 (by decide) ?_
          refine lv_ixor hx hb dX6_mark_102 ?_
          refine lv_iand hx hb dX6_mark_103 ?_
          refine w_st C hI (X.length + (0 + 1)) (wM_ar (by decide)) (wM_setar (by decide)) h dX6_mark_104 (fun st_24 H locs h hI => ?_)
          refine lv_iload hx hb dX6_mark_105 (lv_at hl 0 rfl) ?_
          refine lv_if_eq (tgt := 114) hx hb dX6_mark_107 (by decide) (fun c_25 => absurd c_25 (by decide)) (fun c_25 => ?_)
          refine lv_iconst (v := 0) hx hb dX6_mark_110 (by decide) ?_
          refine lv_goto (tgt := 115) hx hb dX6_mark_111 (by decide) ?_
          obtain ⟨rfl, rfl⟩ := ret2 h
          exact hret H locs _ ls hI dX6_mark_115
        · replace h := (if_neg c_22).symm.trans h
          refine lv_aload_n hx hb dX6_mark_75 rfl (lv_at hl 2 rfl) ?_
          refine w_get (v := .ref (am 1)) C hinRX6 hI X.length wM_ob rfl 0 (by decide) lk9 rfl rfl dX6_mark_76 ?_
          refine lv_bipush (v := 82) hx hb dX6_mark_79 (by decide) ?_
          refine lv_iload_n hx hb dX6_mark_81 rfl (lv_at hl 3 rfl) ?_
          refine lv_iadd hx hb dX6_mark_82 ?_
          refine w_ld C hI (X.length + (0 + 1)) (wM_ar (by decide)) h dX6_mark_83 (fun j_26 hj_26 h => ?_)
          refine lv_iload hx hb dX6_mark_84 (lv_at hl 1 rfl) ?_
          refine lv_ior hx hb dX6_mark_86 ?_
          refine lv_goto (tgt := 104) hx hb dX6_mark_87 (by decide) ?_
          refine w_st C hI (X.length + (0 + 1)) (wM_ar (by decide)) (wM_setar (by decide)) h dX6_mark_104 (fun st_27 H locs h hI => ?_)
          refine lv_iload hx hb dX6_mark_105 (lv_at hl 0 rfl) ?_
          refine lv_if_eq (tgt := 114) hx hb dX6_mark_107 (by decide) (fun c_28 => absurd c_28 (by decide)) (fun c_28 => ?_)
          refine lv_iconst (v := 0) hx hb dX6_mark_110 (by decide) ?_
          refine lv_goto (tgt := 115) hx hb dX6_mark_111 (by decide) ?_
          obtain ⟨rfl, rfl⟩ := ret2 h
          exact hret H locs _ ls hI dX6_mark_115
    · replace h := (if_pos c_7).symm.trans h
      refine lv_aload_n hx hb dX6_mark_15 rfl (lv_at hl 0 rfl) ?_
      refine lv_ldc (v := (-100001)) hx hb hown lc48 dX6_mark_16 ?_
      obtain ⟨r_30, st_31, hr_29, h⟩ := bd2_some h
      refine callV_I (rest := []) C hI (c_X6_finding l g X am (-100001 : Int32) st hr_29) (cwV 1 hts gX6_mark_X6_finding rfl rfl rfl hv_X6_finding ⟨Nat.le_of_ble_eq_true rfl, Nat.le_of_ble_eq_true rfl⟩) (w_recv C hI X.length wM_ob rfl) rfl hl.1 rfl (Nat.le_of_ble_eq_true rfl) dX6_mark_18 (fun H locs hI => ?_)
      obtain ⟨rfl, rfl⟩ := ret2 h
      exact hret H locs _ ls hI dX6_mark_21
theorem hv_X6_mark : yX6_mark.cls = RX6 ∧ yX6_mark.cls ≠ "java/lang/invoke/MethodHandle" ∧ yX6_mark.cls ≠ "java/lang/invoke/VarHandle" ∧ (parseMethodDescriptor yX6_mark.desc).map (fun d => d.parameters.length) = some 3 := by decide +kernel
/-! X6_weigh -/
def rmX6_weigh : Room := { frames := 2, cells := 0, slots := 0, locals := 42 }
def f_X6_weigh (st : St) (x1 : Int32) (x2 : Bool) (x3 : Int32) : Option (Int32 × St) := bnd (f_X6_isMark x1) fun r_1 => if b2i r_1 = 0 then bd2 (f_X6_finding st (-100001 : Int32)) fun r_4 st_5 => some (r_4, st_5) else bnd (f_X6_within x3 1 20) fun r_6 => if b2i r_6 = 0 then bd2 (f_X6_finding st (-100001 : Int32)) fun r_18 st_19 => some (r_18, st_19) else if b2i x2 = 0 then bnd (98 + x1) fun v_9 => ck 116 v_9 fun j_10 => bnd (st 0 j_10) fun v_11 => sto 116 st 0 v_9 x3 fun st_12 => some (v_11, st_12) else bnd (92 + x1) fun v_13 => ck 116 v_13 fun j_14 => bnd (st 0 j_14) fun v_15 => sto 116 st 0 v_13 x3 fun st_16 => some (v_15, st_16)
set_option maxHeartbeats 4000000 in
set_option maxRecDepth 100000 in
theorem c_X6_weigh (l : Launch) (g : GP) (X : va_W) (am : Nat → Nat) (x1 : Int32) (x2 : Bool) (x3 : Int32)  (st : St) {r : Int32} {st' : St} (h : f_X6_weigh st x1 x2 x3 = some (r, st')) : MetI l yX6_weigh wsX6_weigh rmX6_weigh g (wMX g X am) [.ref (am 0), .int x1, .int (b2i x2), .int x3] st (r) st' := by
  refine metI_of (cc := cX6_weigh) (nL := 6) (ty := .int) (by decide) rfl (Nat.le_of_ble_eq_true rfl) rfl ?_
  intro p e s m below meth c Q A C hret H locs hI ls hl
  have C : Cx p s m _ c cX6_weigh 6 wsX6_weigh RX6 g A := C
  obtain ⟨hx, hb, hml, hown, hts⟩ := id C.1
  have hl : lv_has ls 6 [(0, .ref (am 0)), (1, .int x1), (2, .int (b2i x2)), (3, .int x3)] := hl
  have lc48 := hts (.constant RX6 48 (-100001)) (by decide +kernel)
  have hinRX6 : ∀ w ∈ u_ws RX6 TX6 16, w ∈ wsX6_weigh := by decide +kernel
  have lk9 := hts (.fieldLink RX6 9 "GraveRowsModel" "now" "[I") (by decide +kernel)
  rw [f_X6_weigh] at h
  refine lv_iload_n hx hb dX6_weigh_0 rfl (lv_at hl 1 rfl) ?_
  refine callS_S (rest := []) C.1 (c_X6_isMark l x1) (va_cwS 1 hts gX6_weigh_X6_isMark rfl rfl rfl hd_X6_isMark ⟨Nat.le_of_ble_eq_true rfl, Nat.le_of_ble_eq_true rfl⟩) rfl hl.1 rfl (Nat.le_of_ble_eq_true rfl) dX6_weigh_1 ?_
  refine gen_b h (fun r_1 h => ?_)
  refine lv_if_eq (tgt := 17) hx hb dX6_weigh_4 (by decide) (fun c_2 => ?_) (fun c_2 => ?_)
  · replace h := (if_pos c_2).symm.trans h
    refine lv_aload_n hx hb dX6_weigh_17 rfl (lv_at hl 0 rfl) ?_
    refine lv_ldc (v := (-100001)) hx hb hown lc48 dX6_weigh_18 ?_
    obtain ⟨r_4, st_5, hr_3, h⟩ := bd2_some h
    refine callV_I (rest := []) C hI (c_X6_finding l g X am (-100001 : Int32) st hr_3) (cwV 1 hts gX6_weigh_X6_finding rfl rfl rfl hv_X6_finding ⟨Nat.le_of_ble_eq_true rfl, Nat.le_of_ble_eq_true rfl⟩) (w_recv C hI X.length wM_ob rfl) rfl hl.1 rfl (Nat.le_of_ble_eq_true rfl) dX6_weigh_20 (fun H locs hI => ?_)
    obtain ⟨rfl, rfl⟩ := ret2 h
    exact hret H locs _ ls hI dX6_weigh_23
  · replace h := (if_neg c_2).symm.trans h
    refine lv_iload_n hx hb dX6_weigh_7 rfl (lv_at hl 3 rfl) ?_
    refine lv_iconst (v := 1) hx hb dX6_weigh_8 (by decide) ?_
    refine lv_bipush (v := 20) hx hb dX6_weigh_9 (by decide) ?_
    refine callS_S (rest := []) C.1 (c_X6_within l x3 1 20) (va_cwS 3 hts gX6_weigh_X6_within rfl rfl rfl hd_X6_within ⟨Nat.le_of_ble_eq_true rfl, Nat.le_of_ble_eq_true rfl⟩) rfl hl.1 rfl (Nat.le_of_ble_eq_true rfl) dX6_weigh_11 ?_
    refine gen_b h (fun r_6 h => ?_)
    refine lv_if_ne (tgt := 24) hx hb dX6_weigh_14 (by decide) (fun c_7 => ?_) (fun c_7 => ?_)
    · replace h := (if_neg c_7).symm.trans h
      refine lv_iload_n hx hb dX6_weigh_24 rfl (lv_at hl 2 rfl) ?_
      refine lv_if_eq (tgt := 33) hx hb dX6_weigh_25 (by decide) (fun c_8 => ?_) (fun c_8 => ?_)
      · replace h := (if_pos c_8).symm.trans h
        refine lv_bipush (v := 98) hx hb dX6_weigh_33 (by decide) ?_
        refine lv_iload_n hx hb dX6_weigh_35 rfl (lv_at hl 1 rfl) ?_
        refine lv_iadd hx hb dX6_weigh_36 ?_
        refine gen_i h (fun v_9 h => ?_)
        refine lv_istore (lv' := [(4, .int v_9), (0, .ref (am 0)), (1, .int x1), (2, .int (b2i x2)), (3, .int x3)]) hx hb dX6_weigh_37 hl (by decide) rfl (fun ls hl => ?_)
        refine lv_aload_n hx hb dX6_weigh_39 rfl (lv_at hl 1 rfl) ?_
        refine w_get (v := .ref (am 1)) C hinRX6 hI X.length wM_ob rfl 0 (by decide) lk9 rfl rfl dX6_weigh_40 ?_
        refine lv_iload hx hb dX6_weigh_43 (lv_at hl 0 rfl) ?_
        refine w_ld C hI (X.length + (0 + 1)) (wM_ar (by decide)) h dX6_weigh_45 (fun j_10 hj_10 h => ?_)
        refine gen_i h (fun v_11 h => ?_)
        refine lv_istore (lv' := [(5, .int v_11), (4, .int v_9), (0, .ref (am 0)), (1, .int x1), (2, .int (b2i x2)), (3, .int x3)]) hx hb dX6_weigh_46 hl (by decide) rfl (fun ls hl => ?_)
        refine lv_aload_n hx hb dX6_weigh_48 rfl (lv_at hl 2 rfl) ?_
        refine w_get (v := .ref (am 1)) C hinRX6 hI X.length wM_ob rfl 0 (by decide) lk9 rfl rfl dX6_weigh_49 ?_
        refine lv_iload hx hb dX6_weigh_52 (lv_at hl 1 rfl) ?_
        refine lv_iload_n hx hb dX6_weigh_54 rfl (lv_at hl 5 rfl) ?_
        refine w_st C hI (X.length + (0 + 1)) (wM_ar (by decide)) (wM_setar (by decide)) h dX6_weigh_55 (fun st_12 H locs h hI => ?_)
        refine lv_iload hx hb dX6_weigh_56 (lv_at hl 0 rfl) ?_
        obtain ⟨rfl, rfl⟩ := ret2 h
        exact hret H locs _ ls hI dX6_weigh_58
      · replace h := (if_neg c_8).symm.trans h
        refine lv_bipush (v := 92) hx hb dX6_weigh_28 (by decide) ?_
        refine lv_goto (tgt := 35) hx hb dX6_weigh_30 (by decide) ?_
        refine lv_iload_n hx hb dX6_weigh_35 rfl (lv_at hl 1 rfl) ?_
        refine lv_iadd hx hb dX6_weigh_36 ?_
        refine gen_i h (fun v_13 h => ?_)
        refine lv_istore (lv' := [(4, .int v_13), (0, .ref (am 0)), (1, .int x1), (2, .int (b2i x2)), (3, .int x3)]) hx hb dX6_weigh_37 hl (by decide) rfl (fun ls hl => ?_)
        refine lv_aload_n hx hb dX6_weigh_39 rfl (lv_at hl 1 rfl) ?_
        refine w_get (v := .ref (am 1)) C hinRX6 hI X.length wM_ob rfl 0 (by decide) lk9 rfl rfl dX6_weigh_40 ?_
        refine lv_iload hx hb dX6_weigh_43 (lv_at hl 0 rfl) ?_
        refine w_ld C hI (X.length + (0 + 1)) (wM_ar (by decide)) h dX6_weigh_45 (fun j_14 hj_14 h => ?_)
        refine gen_i h (fun v_15 h => ?_)
        refine lv_istore (lv' := [(5, .int v_15), (4, .int v_13), (0, .ref (am 0)), (1, .int x1), (2, .int (b2i x2)), (3, .int x3)]) hx hb dX6_weigh_46 hl (by decide) rfl (fun ls hl => ?_)
        refine lv_aload_n hx hb dX6_weigh_48 rfl (lv_at hl 2 rfl) ?_
        refine w_get (v := .ref (am 1)) C hinRX6 hI X.length wM_ob rfl 0 (by decide) lk9 rfl rfl dX6_weigh_49 ?_
        refine lv_iload hx hb dX6_weigh_52 (lv_at hl 1 rfl) ?_
        refine lv_iload_n hx hb dX6_weigh_54 rfl (lv_at hl 5 rfl) ?_
        refine w_st C hI (X.length + (0 + 1)) (wM_ar (by decide)) (wM_setar (by decide)) h dX6_weigh_55 (fun st_16 H locs h hI => ?_)
        refine lv_iload hx hb dX6_weigh_56 (lv_at hl 0 rfl) ?_
        obtain ⟨rfl, rfl⟩ := ret2 h
        exact hret H locs _ ls hI dX6_weigh_58
    · replace h := (if_pos c_7).symm.trans h
      refine lv_aload_n hx hb dX6_weigh_17 rfl (lv_at hl 0 rfl) ?_
      refine lv_ldc (v := (-100001)) hx hb hown lc48 dX6_weigh_18 ?_
      obtain ⟨r_18, st_19, hr_17, h⟩ := bd2_some h
      refine callV_I (rest := []) C hI (c_X6_finding l g X am (-100001 : Int32) st hr_17) (cwV 1 hts gX6_weigh_X6_finding rfl rfl rfl hv_X6_finding ⟨Nat.le_of_ble_eq_true rfl, Nat.le_of_ble_eq_true rfl⟩) (w_recv C hI X.length wM_ob rfl) rfl hl.1 rfl (Nat.le_of_ble_eq_true rfl) dX6_weigh_20 (fun H locs hI => ?_)
      obtain ⟨rfl, rfl⟩ := ret2 h
      exact hret H locs _ ls hI dX6_weigh_23
theorem hv_X6_weigh : yX6_weigh.cls = RX6 ∧ yX6_weigh.cls ≠ "java/lang/invoke/MethodHandle" ∧ yX6_weigh.cls ≠ "java/lang/invoke/VarHandle" ∧ (parseMethodDescriptor yX6_weigh.desc).map (fun d => d.parameters.length) = some 3 := by decide +kernel
/-! X6_shareOf -/
def rmX6_shareOf : Room := { frames := 0, cells := 0, slots := 0, locals := 0 }
def f_X6_shareOf_L5 (N : Nat) (x1 : Int32) (x2 : Bool) (st : St) (k : Int64 → Int32 → Option (Int64)) : Nat → Int64 → Int32 → Option (Int64)
  | 0, _, _ => none
  | n + 1, x3, x5 => if 6 ≤ x5 then k x3 x5 else ck 116 (72 + x1) fun j_2 => if ((st 0 j_2) >>> (x5 &&& 31)) &&& (1 : Int32) = 0 then f_X6_shareOf_L5 N x1 x2 st k n x3 (x5 + 1) else ck 116 (82 + x1) fun j_4 => if ((st 0 j_4) >>> (x5 &&& 31)) &&& (1 : Int32) = 1 then if b2i x2 = 0 then ck 116 (98 + x5) fun j_18 => bnd (st 0 j_18) fun v_19 => if 1 = b2i x2 then bnd (x3 * v_19.toInt64) fun v_22 => f_X6_shareOf_L5 N x1 x2 st k n v_22 (x5 + 1) else bnd (x3 * ((21 - v_19).toInt64)) fun v_21 => f_X6_shareOf_L5 N x1 x2 st k n v_21 (x5 + 1) else ck 116 (92 + x5) fun j_23 => bnd (st 0 j_23) fun v_24 => if 1 = b2i x2 then bnd (x3 * v_24.toInt64) fun v_27 => f_X6_shareOf_L5 N x1 x2 st k n v_27 (x5 + 1) else bnd (x3 * ((21 - v_24).toInt64)) fun v_26 => f_X6_shareOf_L5 N x1 x2 st k n v_26 (x5 + 1) else if b2i x2 = 0 then ck 116 (98 + x5) fun j_7 => bnd (st 0 j_7) fun v_8 => if 0 = b2i x2 then bnd (x3 * v_8.toInt64) fun v_11 => f_X6_shareOf_L5 N x1 x2 st k n v_11 (x5 + 1) else bnd (x3 * ((21 - v_8).toInt64)) fun v_10 => f_X6_shareOf_L5 N x1 x2 st k n v_10 (x5 + 1) else ck 116 (92 + x5) fun j_12 => bnd (st 0 j_12) fun v_13 => if 0 = b2i x2 then bnd (x3 * v_13.toInt64) fun v_16 => f_X6_shareOf_L5 N x1 x2 st k n v_16 (x5 + 1) else bnd (x3 * ((21 - v_13).toInt64)) fun v_15 => f_X6_shareOf_L5 N x1 x2 st k n v_15 (x5 + 1)
def f_X6_shareOf (N : Nat) (st : St) (x1 : Int32) (x2 : Bool) : Option (Int64) := f_X6_shareOf_L5 N x1 x2 st (fun a_28 a_29 => some a_28) N 1 0
set_option maxHeartbeats 4000000 in
set_option maxRecDepth 100000 in
theorem wl_X6_shareOf_L5 {p : Program} {l : Launch} {e : Env} {s : State} {m : MethodId} {args : Array Value} {below : List Frame} {meth : Method} {c : Code} {Q : State → Prop} {A : Nat → Prop} {g : GP} {X : va_W} {am : Nat → Nat} {r : Int64}  (C : Cx p s m args c cX6_shareOf 8 wsX6_shareOf RX6 g A) (st : St) (hret : RetL p l e rmX6_shareOf s m args below meth c Q cX6_shareOf g A (wMX g X am st) (r)) (N : Nat) (x1 : Int32) (x2 : Bool)  (k : Int64 → Int32 → Option (Int64)) (hk : ∀ (x3 : Int64) (x5 : Int32) (H : Heap) (locs : List Loc) (ls : Array Slot), k x3 x5 = some r → IW g A s.heap (wMX g X am st) H locs → lv_has ls 8 [(0, .ref (am 0)), (1, .int x1), (2, .int (b2i x2)), (3, .long x3), (5, .int x5)] → W p l e rmX6_shareOf s m args below meth c H locs 0 0 Q (F0 m 105 ls [])) : ∀ (n : Nat) (x3 : Int64) (x5 : Int32) (H : Heap) (locs : List Loc) (ls : Array Slot), f_X6_shareOf_L5 N x1 x2 st k n x3 x5 = some r → IW g A s.heap (wMX g X am st) H locs → lv_has ls 8 [(0, .ref (am 0)), (1, .int x1), (2, .int (b2i x2)), (3, .long x3), (5, .int x5)] → W p l e rmX6_shareOf s m args below meth c H locs 0 0 Q (F0 m 5 ls []) := by
  obtain ⟨hx, hb, hml, hown, hts⟩ := id C.1
  have hinRX6 : ∀ w ∈ u_ws RX6 TX6 16, w ∈ wsX6_shareOf := by decide +kernel
  have lk9 := hts (.fieldLink RX6 9 "GraveRowsModel" "now" "[I") (by decide +kernel)
  intro n
  induction n with
  | zero =>
    intro x3 x5 H locs ls h hI hl
    rw [f_X6_shareOf_L5] at h
    cases h
  | succ n ih =>
    intro x3 x5 H locs ls h hI hl
    rw [f_X6_shareOf_L5] at h
    refine lv_iload hx hb dX6_shareOf_5 (lv_at hl 4 rfl) ?_
    refine lv_bipush (v := 6) hx hb dX6_shareOf_7 (by decide) ?_
    refine lv_icmp_ge (tgt := 105) hx hb dX6_shareOf_9 (by decide) (fun c_1 => ?_) (fun c_1 => ?_)
    · replace h := (if_pos c_1).symm.trans h
      exact hk _ _ _ _ _ h hI (lv_sub hl [0, 1, 2, 3, 4] rfl)
    · replace h := (if_neg c_1).symm.trans h
      refine lv_aload_n hx hb dX6_shareOf_12 rfl (lv_at hl 0 rfl) ?_
      refine w_get (v := .ref (am 1)) C hinRX6 hI X.length wM_ob rfl 0 (by decide) lk9 rfl rfl dX6_shareOf_13 ?_
      refine lv_bipush (v := 72) hx hb dX6_shareOf_16 (by decide) ?_
      refine lv_iload_n hx hb dX6_shareOf_18 rfl (lv_at hl 1 rfl) ?_
      refine lv_iadd hx hb dX6_shareOf_19 ?_
      refine w_ld C hI (X.length + (0 + 1)) (wM_ar (by decide)) h dX6_shareOf_20 (fun j_2 hj_2 h => ?_)
      refine lv_iload hx hb dX6_shareOf_21 (lv_at hl 4 rfl) ?_
      refine lv_ishr hx hb dX6_shareOf_23 ?_
      refine lv_iconst (v := 1) hx hb dX6_shareOf_24 (by decide) ?_
      refine lv_iand hx hb dX6_shareOf_25 ?_
      refine lv_if_ne (tgt := 32) hx hb dX6_shareOf_26 (by decide) (fun c_3 => ?_) (fun c_3 => ?_)
      · replace h := (if_neg c_3).symm.trans h
        refine lv_aload_n hx hb dX6_shareOf_32 rfl (lv_at hl 0 rfl) ?_
        refine w_get (v := .ref (am 1)) C hinRX6 hI X.length wM_ob rfl 0 (by decide) lk9 rfl rfl dX6_shareOf_33 ?_
        refine lv_bipush (v := 82) hx hb dX6_shareOf_36 (by decide) ?_
        refine lv_iload_n hx hb dX6_shareOf_38 rfl (lv_at hl 1 rfl) ?_
        refine lv_iadd hx hb dX6_shareOf_39 ?_
        refine w_ld C hI (X.length + (0 + 1)) (wM_ar (by decide)) h dX6_shareOf_40 (fun j_4 hj_4 h => ?_)
        refine lv_iload hx hb dX6_shareOf_41 (lv_at hl 4 rfl) ?_
        refine lv_ishr hx hb dX6_shareOf_43 ?_
        refine lv_iconst (v := 1) hx hb dX6_shareOf_44 (by decide) ?_
        refine lv_iand hx hb dX6_shareOf_45 ?_
        refine lv_iconst (v := 1) hx hb dX6_shareOf_46 (by decide) ?_
        refine lv_icmp_ne (tgt := 54) hx hb dX6_shareOf_47 (by decide) (fun c_5 => ?_) (fun c_5 => ?_)
        · replace h := (if_neg c_5).symm.trans h
          refine lv_iconst (v := 0) hx hb dX6_shareOf_54 (by decide) ?_
          refine lv_istore (lv' := [(6, .int 0), (0, .ref (am 0)), (1, .int x1), (2, .int (b2i x2)), (3, .long x3), (5, .int x5)]) hx hb dX6_shareOf_55 hl (by decide) rfl (fun ls hl => ?_)
          refine lv_aload_n hx hb dX6_shareOf_57 rfl (lv_at hl 1 rfl) ?_
          refine w_get (v := .ref (am 1)) C hinRX6 hI X.length wM_ob rfl 0 (by decide) lk9 rfl rfl dX6_shareOf_58 ?_
          refine lv_iload_n hx hb dX6_shareOf_61 rfl (lv_at hl 3 rfl) ?_
          refine lv_if_eq (tgt := 70) hx hb dX6_shareOf_62 (by decide) (fun c_6 => ?_) (fun c_6 => ?_)
          · replace h := (if_pos c_6).symm.trans h
            refine lv_bipush (v := 98) hx hb dX6_shareOf_70 (by decide) ?_
            refine lv_iload hx hb dX6_shareOf_72 (lv_at hl 5 rfl) ?_
            refine lv_iadd hx hb dX6_shareOf_74 ?_
            refine w_ld C hI (X.length + (0 + 1)) (wM_ar (by decide)) h dX6_shareOf_75 (fun j_7 hj_7 h => ?_)
            refine gen_i h (fun v_8 h => ?_)
            refine lv_istore (lv' := [(7, .int v_8), (6, .int 0), (0, .ref (am 0)), (1, .int x1), (2, .int (b2i x2)), (3, .long x3), (5, .int x5)]) hx hb dX6_shareOf_76 hl (by decide) rfl (fun ls hl => ?_)
            refine lv_lload_n hx hb dX6_shareOf_78 rfl (lv_at hl 5 rfl) ?_
            refine lv_iload hx hb dX6_shareOf_79 (lv_at hl 1 rfl) ?_
            refine lv_iload_n hx hb dX6_shareOf_81 rfl (lv_at hl 4 rfl) ?_
            refine lv_icmp_ne (tgt := 91) hx hb dX6_shareOf_82 (by decide) (fun c_9 => ?_) (fun c_9 => ?_)
            · replace h := (if_neg c_9).symm.trans h
              refine lv_bipush (v := 21) hx hb dX6_shareOf_91 (by decide) ?_
              refine lv_iload hx hb dX6_shareOf_93 (lv_at hl 0 rfl) ?_
              refine lv_isub hx hb dX6_shareOf_95 ?_
              refine lv_i2l (v := (21 - v_8).toInt64) hx hb dX6_shareOf_96 rfl ?_
              refine lv_lmul hx hb dX6_shareOf_97 ?_
              refine gen_l h (fun v_10 h => ?_)
              refine lv_lstore_n (lv' := [(3, .long v_10), (7, .int v_8), (6, .int 0), (0, .ref (am 0)), (1, .int x1), (2, .int (b2i x2)), (5, .int x5)]) hx hb dX6_shareOf_98 rfl hl (by decide) rfl (fun ls hl => ?_)
              refine lv_iinc (v := x5 + 1) (lv' := [(5, .int (x5 + 1)), (3, .long v_10), (7, .int v_8), (6, .int 0), (0, .ref (am 0)), (1, .int x1), (2, .int (b2i x2))]) hx hb dX6_shareOf_99 hl (k := 6) rfl rfl (by decide) rfl (fun ls hl => ?_)
              refine lv_goto (tgt := 5) hx hb dX6_shareOf_102 (by decide) ?_
              exact ih _ _ _ _ _ h hI (lv_sub hl [4, 5, 6, 1, 0] rfl)
            · replace h := (if_pos c_9).symm.trans h
              refine lv_iload hx hb dX6_shareOf_85 (lv_at hl 0 rfl) ?_
              refine lv_i2l (v := v_8.toInt64) hx hb dX6_shareOf_87 rfl ?_
              refine lv_goto (tgt := 97) hx hb dX6_shareOf_88 (by decide) ?_
              refine lv_lmul hx hb dX6_shareOf_97 ?_
              refine gen_l h (fun v_11 h => ?_)
              refine lv_lstore_n (lv' := [(3, .long v_11), (7, .int v_8), (6, .int 0), (0, .ref (am 0)), (1, .int x1), (2, .int (b2i x2)), (5, .int x5)]) hx hb dX6_shareOf_98 rfl hl (by decide) rfl (fun ls hl => ?_)
              refine lv_iinc (v := x5 + 1) (lv' := [(5, .int (x5 + 1)), (3, .long v_11), (7, .int v_8), (6, .int 0), (0, .ref (am 0)), (1, .int x1), (2, .int (b2i x2))]) hx hb dX6_shareOf_99 hl (k := 6) rfl rfl (by decide) rfl (fun ls hl => ?_)
              refine lv_goto (tgt := 5) hx hb dX6_shareOf_102 (by decide) ?_
              exact ih _ _ _ _ _ h hI (lv_sub hl [4, 5, 6, 1, 0] rfl)
          · replace h := (if_neg c_6).symm.trans h
            refine lv_bipush (v := 92) hx hb dX6_shareOf_65 (by decide) ?_
            refine lv_goto (tgt := 72) hx hb dX6_shareOf_67 (by decide) ?_
            refine lv_iload hx hb dX6_shareOf_72 (lv_at hl 5 rfl) ?_
            refine lv_iadd hx hb dX6_shareOf_74 ?_
            refine w_ld C hI (X.length + (0 + 1)) (wM_ar (by decide)) h dX6_shareOf_75 (fun j_12 hj_12 h => ?_)
            refine gen_i h (fun v_13 h => ?_)
            refine lv_istore (lv' := [(7, .int v_13), (6, .int 0), (0, .ref (am 0)), (1, .int x1), (2, .int (b2i x2)), (3, .long x3), (5, .int x5)]) hx hb dX6_shareOf_76 hl (by decide) rfl (fun ls hl => ?_)
            refine lv_lload_n hx hb dX6_shareOf_78 rfl (lv_at hl 5 rfl) ?_
            refine lv_iload hx hb dX6_shareOf_79 (lv_at hl 1 rfl) ?_
            refine lv_iload_n hx hb dX6_shareOf_81 rfl (lv_at hl 4 rfl) ?_
            refine lv_icmp_ne (tgt := 91) hx hb dX6_shareOf_82 (by decide) (fun c_14 => ?_) (fun c_14 => ?_)
            · replace h := (if_neg c_14).symm.trans h
              refine lv_bipush (v := 21) hx hb dX6_shareOf_91 (by decide) ?_
              refine lv_iload hx hb dX6_shareOf_93 (lv_at hl 0 rfl) ?_
              refine lv_isub hx hb dX6_shareOf_95 ?_
              refine lv_i2l (v := (21 - v_13).toInt64) hx hb dX6_shareOf_96 rfl ?_
              refine lv_lmul hx hb dX6_shareOf_97 ?_
              refine gen_l h (fun v_15 h => ?_)
              refine lv_lstore_n (lv' := [(3, .long v_15), (7, .int v_13), (6, .int 0), (0, .ref (am 0)), (1, .int x1), (2, .int (b2i x2)), (5, .int x5)]) hx hb dX6_shareOf_98 rfl hl (by decide) rfl (fun ls hl => ?_)
              refine lv_iinc (v := x5 + 1) (lv' := [(5, .int (x5 + 1)), (3, .long v_15), (7, .int v_13), (6, .int 0), (0, .ref (am 0)), (1, .int x1), (2, .int (b2i x2))]) hx hb dX6_shareOf_99 hl (k := 6) rfl rfl (by decide) rfl (fun ls hl => ?_)
              refine lv_goto (tgt := 5) hx hb dX6_shareOf_102 (by decide) ?_
              exact ih _ _ _ _ _ h hI (lv_sub hl [4, 5, 6, 1, 0] rfl)
            · replace h := (if_pos c_14).symm.trans h
              refine lv_iload hx hb dX6_shareOf_85 (lv_at hl 0 rfl) ?_
              refine lv_i2l (v := v_13.toInt64) hx hb dX6_shareOf_87 rfl ?_
              refine lv_goto (tgt := 97) hx hb dX6_shareOf_88 (by decide) ?_
              refine lv_lmul hx hb dX6_shareOf_97 ?_
              refine gen_l h (fun v_16 h => ?_)
              refine lv_lstore_n (lv' := [(3, .long v_16), (7, .int v_13), (6, .int 0), (0, .ref (am 0)), (1, .int x1), (2, .int (b2i x2)), (5, .int x5)]) hx hb dX6_shareOf_98 rfl hl (by decide) rfl (fun ls hl => ?_)
              refine lv_iinc (v := x5 + 1) (lv' := [(5, .int (x5 + 1)), (3, .long v_16), (7, .int v_13), (6, .int 0), (0, .ref (am 0)), (1, .int x1), (2, .int (b2i x2))]) hx hb dX6_shareOf_99 hl (k := 6) rfl rfl (by decide) rfl (fun ls hl => ?_)
              refine lv_goto (tgt := 5) hx hb dX6_shareOf_102 (by decide) ?_
              exact ih _ _ _ _ _ h hI (lv_sub hl [4, 5, 6, 1, 0] rfl)
        · replace h := (if_pos c_5).symm.trans h
          refine lv_iconst (v := 1) hx hb dX6_shareOf_50 (by decide) ?_
          refine lv_goto (tgt := 55) hx hb dX6_shareOf_51 (by decide) ?_
          refine lv_istore (lv' := [(6, .int 1), (0, .ref (am 0)), (1, .int x1), (2, .int (b2i x2)), (3, .long x3), (5, .int x5)]) hx hb dX6_shareOf_55 hl (by decide) rfl (fun ls hl => ?_)
          refine lv_aload_n hx hb dX6_shareOf_57 rfl (lv_at hl 1 rfl) ?_
          refine w_get (v := .ref (am 1)) C hinRX6 hI X.length wM_ob rfl 0 (by decide) lk9 rfl rfl dX6_shareOf_58 ?_
          refine lv_iload_n hx hb dX6_shareOf_61 rfl (lv_at hl 3 rfl) ?_
          refine lv_if_eq (tgt := 70) hx hb dX6_shareOf_62 (by decide) (fun c_17 => ?_) (fun c_17 => ?_)
          · replace h := (if_pos c_17).symm.trans h
            refine lv_bipush (v := 98) hx hb dX6_shareOf_70 (by decide) ?_
            refine lv_iload hx hb dX6_shareOf_72 (lv_at hl 5 rfl) ?_
            refine lv_iadd hx hb dX6_shareOf_74 ?_
            refine w_ld C hI (X.length + (0 + 1)) (wM_ar (by decide)) h dX6_shareOf_75 (fun j_18 hj_18 h => ?_)
            refine gen_i h (fun v_19 h => ?_)
            refine lv_istore (lv' := [(7, .int v_19), (6, .int 1), (0, .ref (am 0)), (1, .int x1), (2, .int (b2i x2)), (3, .long x3), (5, .int x5)]) hx hb dX6_shareOf_76 hl (by decide) rfl (fun ls hl => ?_)
            refine lv_lload_n hx hb dX6_shareOf_78 rfl (lv_at hl 5 rfl) ?_
            refine lv_iload hx hb dX6_shareOf_79 (lv_at hl 1 rfl) ?_
            refine lv_iload_n hx hb dX6_shareOf_81 rfl (lv_at hl 4 rfl) ?_
            refine lv_icmp_ne (tgt := 91) hx hb dX6_shareOf_82 (by decide) (fun c_20 => ?_) (fun c_20 => ?_)
            · replace h := (if_neg c_20).symm.trans h
              refine lv_bipush (v := 21) hx hb dX6_shareOf_91 (by decide) ?_
              refine lv_iload hx hb dX6_shareOf_93 (lv_at hl 0 rfl) ?_
              refine lv_isub hx hb dX6_shareOf_95 ?_
              refine lv_i2l (v := (21 - v_19).toInt64) hx hb dX6_shareOf_96 rfl ?_
              refine lv_lmul hx hb dX6_shareOf_97 ?_
              refine gen_l h (fun v_21 h => ?_)
              refine lv_lstore_n (lv' := [(3, .long v_21), (7, .int v_19), (6, .int 1), (0, .ref (am 0)), (1, .int x1), (2, .int (b2i x2)), (5, .int x5)]) hx hb dX6_shareOf_98 rfl hl (by decide) rfl (fun ls hl => ?_)
              refine lv_iinc (v := x5 + 1) (lv' := [(5, .int (x5 + 1)), (3, .long v_21), (7, .int v_19), (6, .int 1), (0, .ref (am 0)), (1, .int x1), (2, .int (b2i x2))]) hx hb dX6_shareOf_99 hl (k := 6) rfl rfl (by decide) rfl (fun ls hl => ?_)
              refine lv_goto (tgt := 5) hx hb dX6_shareOf_102 (by decide) ?_
              exact ih _ _ _ _ _ h hI (lv_sub hl [4, 5, 6, 1, 0] rfl)
            · replace h := (if_pos c_20).symm.trans h
              refine lv_iload hx hb dX6_shareOf_85 (lv_at hl 0 rfl) ?_
              refine lv_i2l (v := v_19.toInt64) hx hb dX6_shareOf_87 rfl ?_
              refine lv_goto (tgt := 97) hx hb dX6_shareOf_88 (by decide) ?_
              refine lv_lmul hx hb dX6_shareOf_97 ?_
              refine gen_l h (fun v_22 h => ?_)
              refine lv_lstore_n (lv' := [(3, .long v_22), (7, .int v_19), (6, .int 1), (0, .ref (am 0)), (1, .int x1), (2, .int (b2i x2)), (5, .int x5)]) hx hb dX6_shareOf_98 rfl hl (by decide) rfl (fun ls hl => ?_)
              refine lv_iinc (v := x5 + 1) (lv' := [(5, .int (x5 + 1)), (3, .long v_22), (7, .int v_19), (6, .int 1), (0, .ref (am 0)), (1, .int x1), (2, .int (b2i x2))]) hx hb dX6_shareOf_99 hl (k := 6) rfl rfl (by decide) rfl (fun ls hl => ?_)
              refine lv_goto (tgt := 5) hx hb dX6_shareOf_102 (by decide) ?_
              exact ih _ _ _ _ _ h hI (lv_sub hl [4, 5, 6, 1, 0] rfl)
          · replace h := (if_neg c_17).symm.trans h
            refine lv_bipush (v := 92) hx hb dX6_shareOf_65 (by decide) ?_
            refine lv_goto (tgt := 72) hx hb dX6_shareOf_67 (by decide) ?_
            refine lv_iload hx hb dX6_shareOf_72 (lv_at hl 5 rfl) ?_
            refine lv_iadd hx hb dX6_shareOf_74 ?_
            refine w_ld C hI (X.length + (0 + 1)) (wM_ar (by decide)) h dX6_shareOf_75 (fun j_23 hj_23 h => ?_)
            refine gen_i h (fun v_24 h => ?_)
            refine lv_istore (lv' := [(7, .int v_24), (6, .int 1), (0, .ref (am 0)), (1, .int x1), (2, .int (b2i x2)), (3, .long x3), (5, .int x5)]) hx hb dX6_shareOf_76 hl (by decide) rfl (fun ls hl => ?_)
            refine lv_lload_n hx hb dX6_shareOf_78 rfl (lv_at hl 5 rfl) ?_
            refine lv_iload hx hb dX6_shareOf_79 (lv_at hl 1 rfl) ?_
            refine lv_iload_n hx hb dX6_shareOf_81 rfl (lv_at hl 4 rfl) ?_
            refine lv_icmp_ne (tgt := 91) hx hb dX6_shareOf_82 (by decide) (fun c_25 => ?_) (fun c_25 => ?_)
            · replace h := (if_neg c_25).symm.trans h
              refine lv_bipush (v := 21) hx hb dX6_shareOf_91 (by decide) ?_
              refine lv_iload hx hb dX6_shareOf_93 (lv_at hl 0 rfl) ?_
              refine lv_isub hx hb dX6_shareOf_95 ?_
              refine lv_i2l (v := (21 - v_24).toInt64) hx hb dX6_shareOf_96 rfl ?_
              refine lv_lmul hx hb dX6_shareOf_97 ?_
              refine gen_l h (fun v_26 h => ?_)
              refine lv_lstore_n (lv' := [(3, .long v_26), (7, .int v_24), (6, .int 1), (0, .ref (am 0)), (1, .int x1), (2, .int (b2i x2)), (5, .int x5)]) hx hb dX6_shareOf_98 rfl hl (by decide) rfl (fun ls hl => ?_)
              refine lv_iinc (v := x5 + 1) (lv' := [(5, .int (x5 + 1)), (3, .long v_26), (7, .int v_24), (6, .int 1), (0, .ref (am 0)), (1, .int x1), (2, .int (b2i x2))]) hx hb dX6_shareOf_99 hl (k := 6) rfl rfl (by decide) rfl (fun ls hl => ?_)
              refine lv_goto (tgt := 5) hx hb dX6_shareOf_102 (by decide) ?_
              exact ih _ _ _ _ _ h hI (lv_sub hl [4, 5, 6, 1, 0] rfl)
            · replace h := (if_pos c_25).symm.trans h
              refine lv_iload hx hb dX6_shareOf_85 (lv_at hl 0 rfl) ?_
              refine lv_i2l (v := v_24.toInt64) hx hb dX6_shareOf_87 rfl ?_
              refine lv_goto (tgt := 97) hx hb dX6_shareOf_88 (by decide) ?_
              refine lv_lmul hx hb dX6_shareOf_97 ?_
              refine gen_l h (fun v_27 h => ?_)
              refine lv_lstore_n (lv' := [(3, .long v_27), (7, .int v_24), (6, .int 1), (0, .ref (am 0)), (1, .int x1), (2, .int (b2i x2)), (5, .int x5)]) hx hb dX6_shareOf_98 rfl hl (by decide) rfl (fun ls hl => ?_)
              refine lv_iinc (v := x5 + 1) (lv' := [(5, .int (x5 + 1)), (3, .long v_27), (7, .int v_24), (6, .int 1), (0, .ref (am 0)), (1, .int x1), (2, .int (b2i x2))]) hx hb dX6_shareOf_99 hl (k := 6) rfl rfl (by decide) rfl (fun ls hl => ?_)
              refine lv_goto (tgt := 5) hx hb dX6_shareOf_102 (by decide) ?_
              exact ih _ _ _ _ _ h hI (lv_sub hl [4, 5, 6, 1, 0] rfl)
      · replace h := (if_pos c_3).symm.trans h
        refine lv_goto (tgt := 99) hx hb dX6_shareOf_29 (by decide) ?_
        refine lv_iinc (v := x5 + 1) (lv' := [(5, .int (x5 + 1)), (0, .ref (am 0)), (1, .int x1), (2, .int (b2i x2)), (3, .long x3)]) hx hb dX6_shareOf_99 hl (k := 4) rfl rfl (by decide) rfl (fun ls hl => ?_)
        refine lv_goto (tgt := 5) hx hb dX6_shareOf_102 (by decide) ?_
        exact ih _ _ _ _ _ h hI (lv_sub hl [1, 2, 3, 4, 0] rfl)
set_option maxHeartbeats 4000000 in
set_option maxRecDepth 100000 in
theorem c_X6_shareOf (l : Launch) (g : GP) (X : va_W) (am : Nat → Nat) (N : Nat) (x1 : Int32) (x2 : Bool)  (st : St) {r : Int64}  (h : f_X6_shareOf N st x1 x2 = some r) : MetL l yX6_shareOf wsX6_shareOf rmX6_shareOf g (wMX g X am) [.ref (am 0), .int x1, .int (b2i x2)] st (r) st := by
  refine metL_of (cc := cX6_shareOf) (nL := 8) (by decide) rfl (Nat.le_of_ble_eq_true rfl) ?_
  intro p e s m below meth c Q A C hret H locs hI ls hl
  have C : Cx p s m _ c cX6_shareOf 8 wsX6_shareOf RX6 g A := C
  obtain ⟨hx, hb, hml, hown, hts⟩ := id C.1
  have hl : lv_has ls 8 [(0, .ref (am 0)), (1, .int x1), (2, .int (b2i x2))] := hl
  rw [f_X6_shareOf] at h
  refine lv_lconst (v := 1) hx hb dX6_shareOf_0 (by decide) ?_
  refine lv_lstore_n (lv' := [(3, .long 1), (0, .ref (am 0)), (1, .int x1), (2, .int (b2i x2))]) hx hb dX6_shareOf_1 rfl hl (by decide) rfl (fun ls hl => ?_)
  refine lv_iconst (v := 0) hx hb dX6_shareOf_2 (by decide) ?_
  refine lv_istore (lv' := [(5, .int 0), (3, .long 1), (0, .ref (am 0)), (1, .int x1), (2, .int (b2i x2))]) hx hb dX6_shareOf_3 hl (by decide) rfl (fun ls hl => ?_)
  refine wl_X6_shareOf_L5 C st hret N x1 x2 _ (fun a_28 a_29 H locs ls h hI hl => ?_) N 1 0 H locs ls h hI (lv_sub hl [2, 3, 4, 1, 0] rfl)
  refine lv_lload_n hx hb dX6_shareOf_105 rfl (lv_at hl 3 rfl) ?_
  obtain rfl := ret1 h
  exact hret H locs _ ls hI dX6_shareOf_106
theorem hv_X6_shareOf : yX6_shareOf.cls = RX6 ∧ yX6_shareOf.cls ≠ "java/lang/invoke/MethodHandle" ∧ yX6_shareOf.cls ≠ "java/lang/invoke/VarHandle" ∧ (parseMethodDescriptor yX6_shareOf.desc).map (fun d => d.parameters.length) = some 2 := by decide +kernel
/-! X6_share -/
def rmX6_share : Room := { frames := 2, cells := 0, slots := 0, locals := 43 }
def f_X6_share (N : Nat) (st : St) (x1 : Int32) (x2 : Bool) : Option (Int64 × St) := bnd (f_X6_isGrave st x1) fun r_1 => if b2i r_1 = 0 then bd2 (f_X6_finding st (-100001 : Int32)) fun r_11 st_12 => some (r_11.toInt64, st_12) else ck 116 (2 + x1) fun j_3 => if st 0 j_3 = 2 then bd2 (f_X6_finding st (-100004 : Int32)) fun r_8 st_9 => some (r_8.toInt64, st_9) else bd1 (f_X6_shareOf N st x1 x2) fun r_6 => some (r_6, st)
set_option maxHeartbeats 4000000 in
set_option maxRecDepth 100000 in
theorem c_X6_share (l : Launch) (g : GP) (X : va_W) (am : Nat → Nat) (N : Nat) (x1 : Int32) (x2 : Bool)  (st : St) {r : Int64} {st' : St} (h : f_X6_share N st x1 x2 = some (r, st')) : MetL l yX6_share wsX6_share rmX6_share g (wMX g X am) [.ref (am 0), .int x1, .int (b2i x2)] st (r) st' := by
  refine metL_of (cc := cX6_share) (nL := 3) (by decide) rfl (Nat.le_of_ble_eq_true rfl) ?_
  intro p e s m below meth c Q A C hret H locs hI ls hl
  have C : Cx p s m _ c cX6_share 3 wsX6_share RX6 g A := C
  obtain ⟨hx, hb, hml, hown, hts⟩ := id C.1
  have hl : lv_has ls 3 [(0, .ref (am 0)), (1, .int x1), (2, .int (b2i x2))] := hl
  have hinRX6 : ∀ w ∈ u_ws RX6 TX6 16, w ∈ wsX6_share := by decide +kernel
  have lk9 := hts (.fieldLink RX6 9 "GraveRowsModel" "now" "[I") (by decide +kernel)
  have lc58 := hts (.constant RX6 58 (-100004)) (by decide +kernel)
  have lc48 := hts (.constant RX6 48 (-100001)) (by decide +kernel)
  rw [f_X6_share] at h
  refine lv_aload_n hx hb dX6_share_0 rfl (lv_at hl 0 rfl) ?_
  refine lv_iload_n hx hb dX6_share_1 rfl (lv_at hl 1 rfl) ?_
  refine callV_I (rest := []) C hI (c_X6_isGrave l g X am x1 st) (cwV 1 hts gX6_share_X6_isGrave rfl rfl rfl hv_X6_isGrave ⟨Nat.le_of_ble_eq_true rfl, Nat.le_of_ble_eq_true rfl⟩) (w_recv C hI X.length wM_ob rfl) rfl hl.1 rfl (Nat.le_of_ble_eq_true rfl) dX6_share_2 (fun H locs hI => ?_)
  refine gen_b h (fun r_1 h => ?_)
  refine lv_if_ne (tgt := 16) hx hb dX6_share_5 (by decide) (fun c_2 => ?_) (fun c_2 => ?_)
  · replace h := (if_neg c_2).symm.trans h
    refine lv_aload_n hx hb dX6_share_16 rfl (lv_at hl 0 rfl) ?_
    refine w_get (v := .ref (am 1)) C hinRX6 hI X.length wM_ob rfl 0 (by decide) lk9 rfl rfl dX6_share_17 ?_
    refine lv_iconst (v := 2) hx hb dX6_share_20 (by decide) ?_
    refine lv_iload_n hx hb dX6_share_21 rfl (lv_at hl 1 rfl) ?_
    refine lv_iadd hx hb dX6_share_22 ?_
    refine w_ld C hI (X.length + (0 + 1)) (wM_ar (by decide)) h dX6_share_23 (fun j_3 hj_3 h => ?_)
    refine lv_iconst (v := 2) hx hb dX6_share_24 (by decide) ?_
    refine lv_icmp_ne (tgt := 38) hx hb dX6_share_25 (by decide) (fun c_4 => ?_) (fun c_4 => ?_)
    · replace h := (if_neg c_4).symm.trans h
      refine lv_aload_n hx hb dX6_share_38 rfl (lv_at hl 0 rfl) ?_
      refine lv_iload_n hx hb dX6_share_39 rfl (lv_at hl 1 rfl) ?_
      refine lv_iload_n hx hb dX6_share_40 rfl (lv_at hl 2 rfl) ?_
      obtain ⟨r_6, hr_5, h⟩ := bd1_some h
      refine callV_L (rest := []) C hI (c_X6_shareOf l g X am N x1 x2 st hr_5) (cwV 2 hts gX6_share_X6_shareOf rfl rfl rfl hv_X6_shareOf ⟨Nat.le_of_ble_eq_true rfl, Nat.le_of_ble_eq_true rfl⟩) (w_recv C hI X.length wM_ob rfl) rfl hl.1 rfl (Nat.le_of_ble_eq_true rfl) dX6_share_41 (fun H locs hI => ?_)
      obtain ⟨rfl, rfl⟩ := ret2 h
      exact hret H locs _ ls hI dX6_share_44
    · replace h := (if_pos c_4).symm.trans h
      refine lv_aload_n hx hb dX6_share_28 rfl (lv_at hl 0 rfl) ?_
      refine lv_ldc (v := (-100004)) hx hb hown lc58 dX6_share_29 ?_
      obtain ⟨r_8, st_9, hr_7, h⟩ := bd2_some h
      refine callV_I (rest := []) C hI (c_X6_finding l g X am (-100004 : Int32) st hr_7) (cwV 1 hts gX6_share_X6_finding rfl rfl rfl hv_X6_finding ⟨Nat.le_of_ble_eq_true rfl, Nat.le_of_ble_eq_true rfl⟩) (w_recv C hI X.length wM_ob rfl) rfl hl.1 rfl (Nat.le_of_ble_eq_true rfl) dX6_share_31 (fun H locs hI => ?_)
      refine lv_i2l (v := r_8.toInt64) hx hb dX6_share_34 rfl ?_
      refine lv_goto (tgt := 44) hx hb dX6_share_35 (by decide) ?_
      obtain ⟨rfl, rfl⟩ := ret2 h
      exact hret H locs _ ls hI dX6_share_44
  · replace h := (if_pos c_2).symm.trans h
    refine lv_aload_n hx hb dX6_share_8 rfl (lv_at hl 0 rfl) ?_
    refine lv_ldc (v := (-100001)) hx hb hown lc48 dX6_share_9 ?_
    obtain ⟨r_11, st_12, hr_10, h⟩ := bd2_some h
    refine callV_I (rest := []) C hI (c_X6_finding l g X am (-100001 : Int32) st hr_10) (cwV 1 hts gX6_share_X6_finding rfl rfl rfl hv_X6_finding ⟨Nat.le_of_ble_eq_true rfl, Nat.le_of_ble_eq_true rfl⟩) (w_recv C hI X.length wM_ob rfl) rfl hl.1 rfl (Nat.le_of_ble_eq_true rfl) dX6_share_11 (fun H locs hI => ?_)
    refine lv_i2l (v := r_11.toInt64) hx hb dX6_share_14 rfl ?_
    obtain ⟨rfl, rfl⟩ := ret2 h
    exact hret H locs _ ls hI dX6_share_15
theorem hv_X6_share : yX6_share.cls = RX6 ∧ yX6_share.cls ≠ "java/lang/invoke/MethodHandle" ∧ yX6_share.cls ≠ "java/lang/invoke/VarHandle" ∧ (parseMethodDescriptor yX6_share.desc).map (fun d => d.parameters.length) = some 2 := by decide +kernel
/-! X6_people -/
def rmX6_people : Room := { frames := 1, cells := 0, slots := 0, locals := 27 }
def f_X6_people_L20 (N : Nat) (x1 : Int32) (st : St) (k : Int32 → Int32 → Option (Int32 × St)) : Nat → Int32 → Int32 → Option (Int32 × St)
  | 0, _, _ => none
  | n + 1, x2, x3 => if st 0 0 ≤ x3 then k x2 x3 else bd1 (f_X6_shareOf N st x3 true) fun r_5 => bd1 (f_X6_shareOf N st x3 false) fun r_7 => ck 116 (2 + x3) fun j_8 => if st 0 j_8 = 2 then if 2 = x1 then bnd (x2 + 1) fun v_12 => f_X6_people_L20 N x1 st k n v_12 (x3 + 1) else bnd (x2 + 0) fun v_11 => f_X6_people_L20 N x1 st k n v_11 (x3 + 1) else if lg_cmp r_5 r_7 = 0 then if 2 = x1 then bnd (x2 + 1) fun v_23 => f_X6_people_L20 N x1 st k n v_23 (x3 + 1) else bnd (x2 + 0) fun v_22 => f_X6_people_L20 N x1 st k n v_22 (x3 + 1) else if lg_cmp r_5 r_7 ≤ 0 then if 1 = x1 then bnd (x2 + 1) fun v_17 => f_X6_people_L20 N x1 st k n v_17 (x3 + 1) else bnd (x2 + 0) fun v_16 => f_X6_people_L20 N x1 st k n v_16 (x3 + 1) else if 0 = x1 then bnd (x2 + 1) fun v_20 => f_X6_people_L20 N x1 st k n v_20 (x3 + 1) else bnd (x2 + 0) fun v_19 => f_X6_people_L20 N x1 st k n v_19 (x3 + 1)
def f_X6_people (N : Nat) (st : St) (x1 : Int32) : Option (Int32 × St) := bnd (f_X6_within x1 0 2) fun r_1 => if b2i r_1 = 0 then bd2 (f_X6_finding st (-100001 : Int32)) fun r_27 st_28 => some (r_27, st_28) else f_X6_people_L20 N x1 st (fun a_24 a_25 => some (a_24, st)) N 0 0
set_option maxHeartbeats 4000000 in
set_option maxRecDepth 100000 in
theorem wl_X6_people_L20 {p : Program} {l : Launch} {e : Env} {s : State} {m : MethodId} {args : Array Value} {below : List Frame} {meth : Method} {c : Code} {Q : State → Prop} {A : Nat → Prop} {g : GP} {X : va_W} {am : Nat → Nat} {r : Int32} {st' : St} (C : Cx p s m args c cX6_people 9 wsX6_people RX6 g A) (hret : RetI p l e rmX6_people s m args below meth c Q cX6_people g A (wMX g X am st') (r)) (N : Nat) (x1 : Int32) (st : St)  (k : Int32 → Int32 → Option (Int32 × St)) (hk : ∀ (x2 : Int32) (x3 : Int32) (H : Heap) (locs : List Loc) (ls : Array Slot), k x2 x3 = some (r, st') → IW g A s.heap (wMX g X am st) H locs → lv_has ls 9 [(0, .ref (am 0)), (1, .int x1), (2, .int x2), (3, .int x3)] → W p l e rmX6_people s m args below meth c H locs 0 0 Q (F0 m 105 ls [])) : ∀ (n : Nat) (x2 : Int32) (x3 : Int32) (H : Heap) (locs : List Loc) (ls : Array Slot), f_X6_people_L20 N x1 st k n x2 x3 = some (r, st') → IW g A s.heap (wMX g X am st) H locs → lv_has ls 9 [(0, .ref (am 0)), (1, .int x1), (2, .int x2), (3, .int x3)] → W p l e rmX6_people s m args below meth c H locs 0 0 Q (F0 m 20 ls []) := by
  obtain ⟨hx, hb, hml, hown, hts⟩ := id C.1
  have hinRX6 : ∀ w ∈ u_ws RX6 TX6 16, w ∈ wsX6_people := by decide +kernel
  have lk9 := hts (.fieldLink RX6 9 "GraveRowsModel" "now" "[I") (by decide +kernel)
  intro n
  induction n with
  | zero =>
    intro x2 x3 H locs ls h hI hl
    rw [f_X6_people_L20] at h
    cases h
  | succ n ih =>
    intro x2 x3 H locs ls h hI hl
    rw [f_X6_people_L20] at h
    refine lv_iload_n hx hb dX6_people_20 rfl (lv_at hl 3 rfl) ?_
    refine lv_aload_n hx hb dX6_people_21 rfl (lv_at hl 0 rfl) ?_
    refine w_get (v := .ref (am 1)) C hinRX6 hI X.length wM_ob rfl 0 (by decide) lk9 rfl rfl dX6_people_22 ?_
    refine lv_iconst (v := 0) hx hb dX6_people_25 (by decide) ?_
    refine w_ldK C hI (X.length + (0 + 1)) (wM_ar (by decide)) 0 (by decide) (by decide) dX6_people_26 ?_
    refine lv_icmp_ge (tgt := 105) hx hb dX6_people_27 (by decide) (fun c_3 => ?_) (fun c_3 => ?_)
    · replace h := (if_pos c_3).symm.trans h
      exact hk _ _ _ _ _ h hI (lv_sub hl [0, 1, 2, 3] rfl)
    · replace h := (if_neg c_3).symm.trans h
      refine lv_aload_n hx hb dX6_people_30 rfl (lv_at hl 0 rfl) ?_
      refine lv_iload_n hx hb dX6_people_31 rfl (lv_at hl 3 rfl) ?_
      refine lv_iconst (v := 1) hx hb dX6_people_32 (by decide) ?_
      obtain ⟨r_5, hr_4, h⟩ := bd1_some h
      refine callV_L (rest := []) C hI (c_X6_shareOf l g X am N x3 true st hr_4) (cwV 2 hts gX6_people_X6_shareOf rfl rfl rfl hv_X6_shareOf ⟨Nat.le_of_ble_eq_true rfl, Nat.le_of_ble_eq_true rfl⟩) (w_recv C hI X.length wM_ob rfl) rfl hl.1 rfl (Nat.le_of_ble_eq_true rfl) dX6_people_33 (fun H locs hI => ?_)
      refine lv_lstore (lv' := [(4, .long r_5), (0, .ref (am 0)), (1, .int x1), (2, .int x2), (3, .int x3)]) hx hb dX6_people_36 hl (by decide) rfl (fun ls hl => ?_)
      refine lv_aload_n hx hb dX6_people_38 rfl (lv_at hl 1 rfl) ?_
      refine lv_iload_n hx hb dX6_people_39 rfl (lv_at hl 4 rfl) ?_
      refine lv_iconst (v := 0) hx hb dX6_people_40 (by decide) ?_
      obtain ⟨r_7, hr_6, h⟩ := bd1_some h
      refine callV_L (rest := []) C hI (c_X6_shareOf l g X am N x3 false st hr_6) (cwV 2 hts gX6_people_X6_shareOf rfl rfl rfl hv_X6_shareOf ⟨Nat.le_of_ble_eq_true rfl, Nat.le_of_ble_eq_true rfl⟩) (w_recv C hI X.length wM_ob rfl) rfl hl.1 rfl (Nat.le_of_ble_eq_true rfl) dX6_people_41 (fun H locs hI => ?_)
      refine lv_lstore (lv' := [(6, .long r_7), (4, .long r_5), (0, .ref (am 0)), (1, .int x1), (2, .int x2), (3, .int x3)]) hx hb dX6_people_44 hl (by decide) rfl (fun ls hl => ?_)
      refine lv_aload_n hx hb dX6_people_46 rfl (lv_at hl 2 rfl) ?_
      refine w_get (v := .ref (am 1)) C hinRX6 hI X.length wM_ob rfl 0 (by decide) lk9 rfl rfl dX6_people_47 ?_
      refine lv_iconst (v := 2) hx hb dX6_people_50 (by decide) ?_
      refine lv_iload_n hx hb dX6_people_51 rfl (lv_at hl 5 rfl) ?_
      refine lv_iadd hx hb dX6_people_52 ?_
      refine w_ld C hI (X.length + (0 + 1)) (wM_ar (by decide)) h dX6_people_53 (fun j_8 hj_8 h => ?_)
      refine lv_iconst (v := 2) hx hb dX6_people_54 (by decide) ?_
      refine lv_icmp_eq (tgt := 66) hx hb dX6_people_55 (by decide) (fun c_9 => ?_) (fun c_9 => ?_)
      · replace h := (if_pos c_9).symm.trans h
        refine lv_iconst (v := 2) hx hb dX6_people_66 (by decide) ?_
        refine lv_goto (tgt := 83) hx hb dX6_people_67 (by decide) ?_
        refine lv_istore (lv' := [(8, .int 2), (6, .long r_7), (4, .long r_5), (0, .ref (am 0)), (1, .int x1), (2, .int x2), (3, .int x3)]) hx hb dX6_people_83 hl (by decide) rfl (fun ls hl => ?_)
        refine lv_iload_n hx hb dX6_people_85 rfl (lv_at hl 5 rfl) ?_
        refine lv_iload hx hb dX6_people_86 (lv_at hl 0 rfl) ?_
        refine lv_iload_n hx hb dX6_people_88 rfl (lv_at hl 4 rfl) ?_
        refine lv_icmp_ne (tgt := 96) hx hb dX6_people_89 (by decide) (fun c_10 => ?_) (fun c_10 => ?_)
        · replace h := (if_neg c_10).symm.trans h
          refine lv_iconst (v := 0) hx hb dX6_people_96 (by decide) ?_
          refine lv_iadd hx hb dX6_people_97 ?_
          refine gen_i h (fun v_11 h => ?_)
          refine lv_istore_n (lv' := [(2, .int v_11), (8, .int 2), (6, .long r_7), (4, .long r_5), (0, .ref (am 0)), (1, .int x1), (3, .int x3)]) hx hb dX6_people_98 rfl hl (by decide) rfl (fun ls hl => ?_)
          refine lv_iinc (v := x3 + 1) (lv' := [(3, .int (x3 + 1)), (2, .int v_11), (8, .int 2), (6, .long r_7), (4, .long r_5), (0, .ref (am 0)), (1, .int x1)]) hx hb dX6_people_99 hl (k := 6) rfl rfl (by decide) rfl (fun ls hl => ?_)
          refine lv_goto (tgt := 20) hx hb dX6_people_102 (by decide) ?_
          exact ih _ _ _ _ _ h hI (lv_sub hl [5, 6, 1, 0] rfl)
        · replace h := (if_pos c_10).symm.trans h
          refine lv_iconst (v := 1) hx hb dX6_people_92 (by decide) ?_
          refine lv_goto (tgt := 97) hx hb dX6_people_93 (by decide) ?_
          refine lv_iadd hx hb dX6_people_97 ?_
          refine gen_i h (fun v_12 h => ?_)
          refine lv_istore_n (lv' := [(2, .int v_12), (8, .int 2), (6, .long r_7), (4, .long r_5), (0, .ref (am 0)), (1, .int x1), (3, .int x3)]) hx hb dX6_people_98 rfl hl (by decide) rfl (fun ls hl => ?_)
          refine lv_iinc (v := x3 + 1) (lv' := [(3, .int (x3 + 1)), (2, .int v_12), (8, .int 2), (6, .long r_7), (4, .long r_5), (0, .ref (am 0)), (1, .int x1)]) hx hb dX6_people_99 hl (k := 6) rfl rfl (by decide) rfl (fun ls hl => ?_)
          refine lv_goto (tgt := 20) hx hb dX6_people_102 (by decide) ?_
          exact ih _ _ _ _ _ h hI (lv_sub hl [5, 6, 1, 0] rfl)
      · replace h := (if_neg c_9).symm.trans h
        refine lv_lload hx hb dX6_people_58 (lv_at hl 1 rfl) ?_
        refine lv_lload hx hb dX6_people_60 (lv_at hl 0 rfl) ?_
        refine W.lcmp hx hb dX6_people_62 ?_
        refine lv_if_ne (tgt := 70) hx hb dX6_people_63 (by decide) (fun c_13 => ?_) (fun c_13 => ?_)
        · replace h := (if_neg c_13).symm.trans h
          refine lv_lload hx hb dX6_people_70 (lv_at hl 1 rfl) ?_
          refine lv_lload hx hb dX6_people_72 (lv_at hl 0 rfl) ?_
          refine W.lcmp hx hb dX6_people_74 ?_
          refine lv_if_le (tgt := 82) hx hb dX6_people_75 (by decide) (fun c_14 => ?_) (fun c_14 => ?_)
          · replace h := (if_pos c_14).symm.trans h
            refine lv_iconst (v := 1) hx hb dX6_people_82 (by decide) ?_
            refine lv_istore (lv' := [(8, .int 1), (6, .long r_7), (4, .long r_5), (0, .ref (am 0)), (1, .int x1), (2, .int x2), (3, .int x3)]) hx hb dX6_people_83 hl (by decide) rfl (fun ls hl => ?_)
            refine lv_iload_n hx hb dX6_people_85 rfl (lv_at hl 5 rfl) ?_
            refine lv_iload hx hb dX6_people_86 (lv_at hl 0 rfl) ?_
            refine lv_iload_n hx hb dX6_people_88 rfl (lv_at hl 4 rfl) ?_
            refine lv_icmp_ne (tgt := 96) hx hb dX6_people_89 (by decide) (fun c_15 => ?_) (fun c_15 => ?_)
            · replace h := (if_neg c_15).symm.trans h
              refine lv_iconst (v := 0) hx hb dX6_people_96 (by decide) ?_
              refine lv_iadd hx hb dX6_people_97 ?_
              refine gen_i h (fun v_16 h => ?_)
              refine lv_istore_n (lv' := [(2, .int v_16), (8, .int 1), (6, .long r_7), (4, .long r_5), (0, .ref (am 0)), (1, .int x1), (3, .int x3)]) hx hb dX6_people_98 rfl hl (by decide) rfl (fun ls hl => ?_)
              refine lv_iinc (v := x3 + 1) (lv' := [(3, .int (x3 + 1)), (2, .int v_16), (8, .int 1), (6, .long r_7), (4, .long r_5), (0, .ref (am 0)), (1, .int x1)]) hx hb dX6_people_99 hl (k := 6) rfl rfl (by decide) rfl (fun ls hl => ?_)
              refine lv_goto (tgt := 20) hx hb dX6_people_102 (by decide) ?_
              exact ih _ _ _ _ _ h hI (lv_sub hl [5, 6, 1, 0] rfl)
            · replace h := (if_pos c_15).symm.trans h
              refine lv_iconst (v := 1) hx hb dX6_people_92 (by decide) ?_
              refine lv_goto (tgt := 97) hx hb dX6_people_93 (by decide) ?_
              refine lv_iadd hx hb dX6_people_97 ?_
              refine gen_i h (fun v_17 h => ?_)
              refine lv_istore_n (lv' := [(2, .int v_17), (8, .int 1), (6, .long r_7), (4, .long r_5), (0, .ref (am 0)), (1, .int x1), (3, .int x3)]) hx hb dX6_people_98 rfl hl (by decide) rfl (fun ls hl => ?_)
              refine lv_iinc (v := x3 + 1) (lv' := [(3, .int (x3 + 1)), (2, .int v_17), (8, .int 1), (6, .long r_7), (4, .long r_5), (0, .ref (am 0)), (1, .int x1)]) hx hb dX6_people_99 hl (k := 6) rfl rfl (by decide) rfl (fun ls hl => ?_)
              refine lv_goto (tgt := 20) hx hb dX6_people_102 (by decide) ?_
              exact ih _ _ _ _ _ h hI (lv_sub hl [5, 6, 1, 0] rfl)
          · replace h := (if_neg c_14).symm.trans h
            refine lv_iconst (v := 0) hx hb dX6_people_78 (by decide) ?_
            refine lv_goto (tgt := 83) hx hb dX6_people_79 (by decide) ?_
            refine lv_istore (lv' := [(8, .int 0), (6, .long r_7), (4, .long r_5), (0, .ref (am 0)), (1, .int x1), (2, .int x2), (3, .int x3)]) hx hb dX6_people_83 hl (by decide) rfl (fun ls hl => ?_)
            refine lv_iload_n hx hb dX6_people_85 rfl (lv_at hl 5 rfl) ?_
            refine lv_iload hx hb dX6_people_86 (lv_at hl 0 rfl) ?_
            refine lv_iload_n hx hb dX6_people_88 rfl (lv_at hl 4 rfl) ?_
            refine lv_icmp_ne (tgt := 96) hx hb dX6_people_89 (by decide) (fun c_18 => ?_) (fun c_18 => ?_)
            · replace h := (if_neg c_18).symm.trans h
              refine lv_iconst (v := 0) hx hb dX6_people_96 (by decide) ?_
              refine lv_iadd hx hb dX6_people_97 ?_
              refine gen_i h (fun v_19 h => ?_)
              refine lv_istore_n (lv' := [(2, .int v_19), (8, .int 0), (6, .long r_7), (4, .long r_5), (0, .ref (am 0)), (1, .int x1), (3, .int x3)]) hx hb dX6_people_98 rfl hl (by decide) rfl (fun ls hl => ?_)
              refine lv_iinc (v := x3 + 1) (lv' := [(3, .int (x3 + 1)), (2, .int v_19), (8, .int 0), (6, .long r_7), (4, .long r_5), (0, .ref (am 0)), (1, .int x1)]) hx hb dX6_people_99 hl (k := 6) rfl rfl (by decide) rfl (fun ls hl => ?_)
              refine lv_goto (tgt := 20) hx hb dX6_people_102 (by decide) ?_
              exact ih _ _ _ _ _ h hI (lv_sub hl [5, 6, 1, 0] rfl)
            · replace h := (if_pos c_18).symm.trans h
              refine lv_iconst (v := 1) hx hb dX6_people_92 (by decide) ?_
              refine lv_goto (tgt := 97) hx hb dX6_people_93 (by decide) ?_
              refine lv_iadd hx hb dX6_people_97 ?_
              refine gen_i h (fun v_20 h => ?_)
              refine lv_istore_n (lv' := [(2, .int v_20), (8, .int 0), (6, .long r_7), (4, .long r_5), (0, .ref (am 0)), (1, .int x1), (3, .int x3)]) hx hb dX6_people_98 rfl hl (by decide) rfl (fun ls hl => ?_)
              refine lv_iinc (v := x3 + 1) (lv' := [(3, .int (x3 + 1)), (2, .int v_20), (8, .int 0), (6, .long r_7), (4, .long r_5), (0, .ref (am 0)), (1, .int x1)]) hx hb dX6_people_99 hl (k := 6) rfl rfl (by decide) rfl (fun ls hl => ?_)
              refine lv_goto (tgt := 20) hx hb dX6_people_102 (by decide) ?_
              exact ih _ _ _ _ _ h hI (lv_sub hl [5, 6, 1, 0] rfl)
        · replace h := (if_pos c_13).symm.trans h
          refine lv_iconst (v := 2) hx hb dX6_people_66 (by decide) ?_
          refine lv_goto (tgt := 83) hx hb dX6_people_67 (by decide) ?_
          refine lv_istore (lv' := [(8, .int 2), (6, .long r_7), (4, .long r_5), (0, .ref (am 0)), (1, .int x1), (2, .int x2), (3, .int x3)]) hx hb dX6_people_83 hl (by decide) rfl (fun ls hl => ?_)
          refine lv_iload_n hx hb dX6_people_85 rfl (lv_at hl 5 rfl) ?_
          refine lv_iload hx hb dX6_people_86 (lv_at hl 0 rfl) ?_
          refine lv_iload_n hx hb dX6_people_88 rfl (lv_at hl 4 rfl) ?_
          refine lv_icmp_ne (tgt := 96) hx hb dX6_people_89 (by decide) (fun c_21 => ?_) (fun c_21 => ?_)
          · replace h := (if_neg c_21).symm.trans h
            refine lv_iconst (v := 0) hx hb dX6_people_96 (by decide) ?_
            refine lv_iadd hx hb dX6_people_97 ?_
            refine gen_i h (fun v_22 h => ?_)
            refine lv_istore_n (lv' := [(2, .int v_22), (8, .int 2), (6, .long r_7), (4, .long r_5), (0, .ref (am 0)), (1, .int x1), (3, .int x3)]) hx hb dX6_people_98 rfl hl (by decide) rfl (fun ls hl => ?_)
            refine lv_iinc (v := x3 + 1) (lv' := [(3, .int (x3 + 1)), (2, .int v_22), (8, .int 2), (6, .long r_7), (4, .long r_5), (0, .ref (am 0)), (1, .int x1)]) hx hb dX6_people_99 hl (k := 6) rfl rfl (by decide) rfl (fun ls hl => ?_)
            refine lv_goto (tgt := 20) hx hb dX6_people_102 (by decide) ?_
            exact ih _ _ _ _ _ h hI (lv_sub hl [5, 6, 1, 0] rfl)
          · replace h := (if_pos c_21).symm.trans h
            refine lv_iconst (v := 1) hx hb dX6_people_92 (by decide) ?_
            refine lv_goto (tgt := 97) hx hb dX6_people_93 (by decide) ?_
            refine lv_iadd hx hb dX6_people_97 ?_
            refine gen_i h (fun v_23 h => ?_)
            refine lv_istore_n (lv' := [(2, .int v_23), (8, .int 2), (6, .long r_7), (4, .long r_5), (0, .ref (am 0)), (1, .int x1), (3, .int x3)]) hx hb dX6_people_98 rfl hl (by decide) rfl (fun ls hl => ?_)
            refine lv_iinc (v := x3 + 1) (lv' := [(3, .int (x3 + 1)), (2, .int v_23), (8, .int 2), (6, .long r_7), (4, .long r_5), (0, .ref (am 0)), (1, .int x1)]) hx hb dX6_people_99 hl (k := 6) rfl rfl (by decide) rfl (fun ls hl => ?_)
            refine lv_goto (tgt := 20) hx hb dX6_people_102 (by decide) ?_
            exact ih _ _ _ _ _ h hI (lv_sub hl [5, 6, 1, 0] rfl)
set_option maxHeartbeats 4000000 in
set_option maxRecDepth 100000 in
theorem c_X6_people (l : Launch) (g : GP) (X : va_W) (am : Nat → Nat) (N : Nat) (x1 : Int32)  (st : St) {r : Int32} {st' : St} (h : f_X6_people N st x1 = some (r, st')) : MetI l yX6_people wsX6_people rmX6_people g (wMX g X am) [.ref (am 0), .int x1] st (r) st' := by
  refine metI_of (cc := cX6_people) (nL := 9) (ty := .int) (by decide) rfl (Nat.le_of_ble_eq_true rfl) rfl ?_
  intro p e s m below meth c Q A C hret H locs hI ls hl
  have C : Cx p s m _ c cX6_people 9 wsX6_people RX6 g A := C
  obtain ⟨hx, hb, hml, hown, hts⟩ := id C.1
  have hl : lv_has ls 9 [(0, .ref (am 0)), (1, .int x1)] := hl
  have lc48 := hts (.constant RX6 48 (-100001)) (by decide +kernel)
  rw [f_X6_people] at h
  refine lv_iload_n hx hb dX6_people_0 rfl (lv_at hl 1 rfl) ?_
  refine lv_iconst (v := 0) hx hb dX6_people_1 (by decide) ?_
  refine lv_iconst (v := 2) hx hb dX6_people_2 (by decide) ?_
  refine callS_S (rest := []) C.1 (c_X6_within l x1 0 2) (va_cwS 3 hts gX6_people_X6_within rfl rfl rfl hd_X6_within ⟨Nat.le_of_ble_eq_true rfl, Nat.le_of_ble_eq_true rfl⟩) rfl hl.1 rfl (Nat.le_of_ble_eq_true rfl) dX6_people_3 ?_
  refine gen_b h (fun r_1 h => ?_)
  refine lv_if_ne (tgt := 16) hx hb dX6_people_6 (by decide) (fun c_2 => ?_) (fun c_2 => ?_)
  · replace h := (if_neg c_2).symm.trans h
    refine lv_iconst (v := 0) hx hb dX6_people_16 (by decide) ?_
    refine lv_istore_n (lv' := [(2, .int 0), (0, .ref (am 0)), (1, .int x1)]) hx hb dX6_people_17 rfl hl (by decide) rfl (fun ls hl => ?_)
    refine lv_iconst (v := 0) hx hb dX6_people_18 (by decide) ?_
    refine lv_istore_n (lv' := [(3, .int 0), (2, .int 0), (0, .ref (am 0)), (1, .int x1)]) hx hb dX6_people_19 rfl hl (by decide) rfl (fun ls hl => ?_)
    refine wl_X6_people_L20 C hret N x1 st _ (fun a_24 a_25 H locs ls h hI hl => ?_) N 0 0 H locs ls h hI (lv_sub hl [2, 3, 1, 0] rfl)
    refine lv_iload_n hx hb dX6_people_105 rfl (lv_at hl 2 rfl) ?_
    obtain ⟨rfl, rfl⟩ := ret2 h
    exact hret H locs _ ls hI dX6_people_106
  · replace h := (if_pos c_2).symm.trans h
    refine lv_aload_n hx hb dX6_people_9 rfl (lv_at hl 0 rfl) ?_
    refine lv_ldc (v := (-100001)) hx hb hown lc48 dX6_people_10 ?_
    obtain ⟨r_27, st_28, hr_26, h⟩ := bd2_some h
    refine callV_I (rest := []) C hI (c_X6_finding l g X am (-100001 : Int32) st hr_26) (cwV 1 hts gX6_people_X6_finding rfl rfl rfl hv_X6_finding ⟨Nat.le_of_ble_eq_true rfl, Nat.le_of_ble_eq_true rfl⟩) (w_recv C hI X.length wM_ob rfl) rfl hl.1 rfl (Nat.le_of_ble_eq_true rfl) dX6_people_12 (fun H locs hI => ?_)
    obtain ⟨rfl, rfl⟩ := ret2 h
    exact hret H locs _ ls hI dX6_people_15
theorem hv_X6_people : yX6_people.cls = RX6 ∧ yX6_people.cls ≠ "java/lang/invoke/MethodHandle" ∧ yX6_people.cls ≠ "java/lang/invoke/VarHandle" ∧ (parseMethodDescriptor yX6_people.desc).map (fun d => d.parameters.length) = some 1 := by decide +kernel
/-! X6_keep -/
def rmX6_keep : Room := { frames := 0, cells := 0, slots := 0, locals := 0 }
def f_X6_keep_L2 (N : Nat) (k : Int32 → St → Option (Int32 × St)) : Nat → Int32 → St → Option (Int32 × St)
  | 0, _, _ => none
  | n + 1, x1, st => if 116 ≤ x1 then k x1 st else ck 116 x1 fun j_2 => sto 116 st 1 x1 (st 0 j_2) fun st_3 => f_X6_keep_L2 N k n (x1 + 1) st_3
def f_X6_keep (N : Nat) (st : St) : Option (Int32 × St) := f_X6_keep_L2 N (fun a_4 st_5 => bnd (sU st_5 10 0 1) fun st_6 => some (st_6 0 0, st_6)) N 0 st
set_option maxHeartbeats 4000000 in
set_option maxRecDepth 100000 in
theorem wl_X6_keep_L2 {p : Program} {l : Launch} {e : Env} {s : State} {m : MethodId} {args : Array Value} {below : List Frame} {meth : Method} {c : Code} {Q : State → Prop} {A : Nat → Prop} {g : GP} {X : va_W} {am : Nat → Nat} {r : Int32} {st' : St} (C : Cx p s m args c cX6_keep 2 wsX6_keep RX6 g A) (hret : RetI p l e rmX6_keep s m args below meth c Q cX6_keep g A (wMX g X am st') (r)) (N : Nat)  (k : Int32 → St → Option (Int32 × St)) (hk : ∀ (x1 : Int32) (st : St) (H : Heap) (locs : List Loc) (ls : Array Slot), k x1 st = some (r, st') → IW g A s.heap (wMX g X am st) H locs → lv_has ls 2 [(0, .ref (am 0)), (1, .int x1)] → W p l e rmX6_keep s m args below meth c H locs 0 0 Q (F0 m 26 ls [])) : ∀ (n : Nat) (x1 : Int32) (st : St) (H : Heap) (locs : List Loc) (ls : Array Slot), f_X6_keep_L2 N k n x1 st = some (r, st') → IW g A s.heap (wMX g X am st) H locs → lv_has ls 2 [(0, .ref (am 0)), (1, .int x1)] → W p l e rmX6_keep s m args below meth c H locs 0 0 Q (F0 m 2 ls []) := by
  obtain ⟨hx, hb, hml, hown, hts⟩ := id C.1
  have hinRX6 : ∀ w ∈ u_ws RX6 TX6 16, w ∈ wsX6_keep := by decide +kernel
  have lk13 := hts (.fieldLink RX6 13 "GraveRowsModel" "kept" "[I") (by decide +kernel)
  have lk9 := hts (.fieldLink RX6 9 "GraveRowsModel" "now" "[I") (by decide +kernel)
  intro n
  induction n with
  | zero =>
    intro x1 st H locs ls h hI hl
    rw [f_X6_keep_L2] at h
    cases h
  | succ n ih =>
    intro x1 st H locs ls h hI hl
    rw [f_X6_keep_L2] at h
    refine lv_iload_n hx hb dX6_keep_2 rfl (lv_at hl 1 rfl) ?_
    refine lv_bipush (v := 116) hx hb dX6_keep_3 (by decide) ?_
    refine lv_icmp_ge (tgt := 26) hx hb dX6_keep_5 (by decide) (fun c_1 => ?_) (fun c_1 => ?_)
    · replace h := (if_pos c_1).symm.trans h
      exact hk _ _ _ _ _ h hI (lv_sub hl [0, 1] rfl)
    · replace h := (if_neg c_1).symm.trans h
      refine lv_aload_n hx hb dX6_keep_8 rfl (lv_at hl 0 rfl) ?_
      refine w_get (v := .ref (am 2)) C hinRX6 hI X.length wM_ob rfl 1 (by decide) lk13 rfl rfl dX6_keep_9 ?_
      refine lv_iload_n hx hb dX6_keep_12 rfl (lv_at hl 1 rfl) ?_
      refine lv_aload_n hx hb dX6_keep_13 rfl (lv_at hl 0 rfl) ?_
      refine w_get (v := .ref (am 1)) C hinRX6 hI X.length wM_ob rfl 0 (by decide) lk9 rfl rfl dX6_keep_14 ?_
      refine lv_iload_n hx hb dX6_keep_17 rfl (lv_at hl 1 rfl) ?_
      refine w_ld C hI (X.length + (0 + 1)) (wM_ar (by decide)) h dX6_keep_18 (fun j_2 hj_2 h => ?_)
      refine w_st C hI (X.length + (1 + 1)) (wM_ar (by decide)) (wM_setar (by decide)) h dX6_keep_19 (fun st_3 H locs h hI => ?_)
      refine lv_iinc (v := x1 + 1) (lv' := [(1, .int (x1 + 1)), (0, .ref (am 0))]) hx hb dX6_keep_20 hl (k := 1) rfl rfl (by decide) rfl (fun ls hl => ?_)
      refine lv_goto (tgt := 2) hx hb dX6_keep_23 (by decide) ?_
      exact ih _ _ _ _ _ h hI (lv_sub hl [1, 0] rfl)
set_option maxHeartbeats 4000000 in
set_option maxRecDepth 100000 in
theorem c_X6_keep (l : Launch) (g : GP) (X : va_W) (am : Nat → Nat) (N : Nat)  (st : St) {r : Int32} {st' : St} (h : f_X6_keep N st = some (r, st')) : MetI l yX6_keep wsX6_keep rmX6_keep g (wMX g X am) [.ref (am 0)] st (r) st' := by
  refine metI_of (cc := cX6_keep) (nL := 2) (ty := .int) (by decide) rfl (Nat.le_of_ble_eq_true rfl) rfl ?_
  intro p e s m below meth c Q A C hret H locs hI ls hl
  have C : Cx p s m _ c cX6_keep 2 wsX6_keep RX6 g A := C
  obtain ⟨hx, hb, hml, hown, hts⟩ := id C.1
  have hl : lv_has ls 2 [(0, .ref (am 0))] := hl
  have hinRX6 : ∀ w ∈ u_ws RX6 TX6 16, w ∈ wsX6_keep := by decide +kernel
  have lk172 := hts (.fieldLink RX6 172 "GraveRowsModel" "isKept" "Z") (by decide +kernel)
  have lk9 := hts (.fieldLink RX6 9 "GraveRowsModel" "now" "[I") (by decide +kernel)
  rw [f_X6_keep] at h
  refine lv_iconst (v := 0) hx hb dX6_keep_0 (by decide) ?_
  refine lv_istore_n (lv' := [(1, .int 0), (0, .ref (am 0))]) hx hb dX6_keep_1 rfl hl (by decide) rfl (fun ls hl => ?_)
  refine wl_X6_keep_L2 C hret N _ (fun a_4 st_5 H locs ls h hI hl => ?_) N 0 st H locs ls h hI (lv_sub hl [1, 0] rfl)
  refine lv_aload_n hx hb dX6_keep_26 rfl (lv_at hl 0 rfl) ?_
  refine lv_iconst (v := 1) hx hb dX6_keep_27 (by decide) ?_
  refine w_put C hinRX6 tyX6 tyX6_ok nmX6 hI X.length wM_ob rfl 2 h (wM_setob rfl) (by decide) (Nat.le_of_ble_eq_true rfl) lk172 ⟨rfl, rfl⟩ rfl rfl dX6_keep_28 (fun st_6 H locs h hI => ?_)
  refine lv_aload_n hx hb dX6_keep_31 rfl (lv_at hl 0 rfl) ?_
  refine w_get (v := .ref (am 1)) C hinRX6 hI X.length wM_ob rfl 0 (by decide) lk9 rfl rfl dX6_keep_32 ?_
  refine lv_iconst (v := 0) hx hb dX6_keep_35 (by decide) ?_
  refine w_ldK C hI (X.length + (0 + 1)) (wM_ar (by decide)) 0 (by decide) (by decide) dX6_keep_36 ?_
  obtain ⟨rfl, rfl⟩ := ret2 h
  exact hret H locs _ ls hI dX6_keep_37
theorem hv_X6_keep : yX6_keep.cls = RX6 ∧ yX6_keep.cls ≠ "java/lang/invoke/MethodHandle" ∧ yX6_keep.cls ≠ "java/lang/invoke/VarHandle" ∧ (parseMethodDescriptor yX6_keep.desc).map (fun d => d.parameters.length) = some 0 := by decide +kernel
/-! X6_back -/
def rmX6_back : Room := { frames := 1, cells := 0, slots := 0, locals := 21 }
def f_X6_back_L16 (N : Nat) (k : Int32 → St → Option (Int32 × St)) : Nat → Int32 → St → Option (Int32 × St)
  | 0, _, _ => none
  | n + 1, x1, st => if 116 ≤ x1 then k x1 st else ck 116 x1 fun j_3 => sto 116 st 0 x1 (st 1 j_3) fun st_4 => f_X6_back_L16 N k n (x1 + 1) st_4
def f_X6_back (N : Nat) (st : St) : Option (Int32 × St) := if st 10 0 = 0 then bd2 (f_X6_finding st (-100006 : Int32)) fun r_8 st_9 => some (r_8, st_9) else f_X6_back_L16 N (fun a_5 st_6 => some (st_6 0 0, st_6)) N 0 st
set_option maxHeartbeats 4000000 in
set_option maxRecDepth 100000 in
theorem wl_X6_back_L16 {p : Program} {l : Launch} {e : Env} {s : State} {m : MethodId} {args : Array Value} {below : List Frame} {meth : Method} {c : Code} {Q : State → Prop} {A : Nat → Prop} {g : GP} {X : va_W} {am : Nat → Nat} {r : Int32} {st' : St} (C : Cx p s m args c cX6_back 2 wsX6_back RX6 g A) (hret : RetI p l e rmX6_back s m args below meth c Q cX6_back g A (wMX g X am st') (r)) (N : Nat)  (k : Int32 → St → Option (Int32 × St)) (hk : ∀ (x1 : Int32) (st : St) (H : Heap) (locs : List Loc) (ls : Array Slot), k x1 st = some (r, st') → IW g A s.heap (wMX g X am st) H locs → lv_has ls 2 [(0, .ref (am 0)), (1, .int x1)] → W p l e rmX6_back s m args below meth c H locs 0 0 Q (F0 m 40 ls [])) : ∀ (n : Nat) (x1 : Int32) (st : St) (H : Heap) (locs : List Loc) (ls : Array Slot), f_X6_back_L16 N k n x1 st = some (r, st') → IW g A s.heap (wMX g X am st) H locs → lv_has ls 2 [(0, .ref (am 0)), (1, .int x1)] → W p l e rmX6_back s m args below meth c H locs 0 0 Q (F0 m 16 ls []) := by
  obtain ⟨hx, hb, hml, hown, hts⟩ := id C.1
  have hinRX6 : ∀ w ∈ u_ws RX6 TX6 16, w ∈ wsX6_back := by decide +kernel
  have lk9 := hts (.fieldLink RX6 9 "GraveRowsModel" "now" "[I") (by decide +kernel)
  have lk13 := hts (.fieldLink RX6 13 "GraveRowsModel" "kept" "[I") (by decide +kernel)
  intro n
  induction n with
  | zero =>
    intro x1 st H locs ls h hI hl
    rw [f_X6_back_L16] at h
    cases h
  | succ n ih =>
    intro x1 st H locs ls h hI hl
    rw [f_X6_back_L16] at h
    refine lv_iload_n hx hb dX6_back_16 rfl (lv_at hl 1 rfl) ?_
    refine lv_bipush (v := 116) hx hb dX6_back_17 (by decide) ?_
    refine lv_icmp_ge (tgt := 40) hx hb dX6_back_19 (by decide) (fun c_2 => ?_) (fun c_2 => ?_)
    · replace h := (if_pos c_2).symm.trans h
      exact hk _ _ _ _ _ h hI (lv_sub hl [0, 1] rfl)
    · replace h := (if_neg c_2).symm.trans h
      refine lv_aload_n hx hb dX6_back_22 rfl (lv_at hl 0 rfl) ?_
      refine w_get (v := .ref (am 1)) C hinRX6 hI X.length wM_ob rfl 0 (by decide) lk9 rfl rfl dX6_back_23 ?_
      refine lv_iload_n hx hb dX6_back_26 rfl (lv_at hl 1 rfl) ?_
      refine lv_aload_n hx hb dX6_back_27 rfl (lv_at hl 0 rfl) ?_
      refine w_get (v := .ref (am 2)) C hinRX6 hI X.length wM_ob rfl 1 (by decide) lk13 rfl rfl dX6_back_28 ?_
      refine lv_iload_n hx hb dX6_back_31 rfl (lv_at hl 1 rfl) ?_
      refine w_ld C hI (X.length + (1 + 1)) (wM_ar (by decide)) h dX6_back_32 (fun j_3 hj_3 h => ?_)
      refine w_st C hI (X.length + (0 + 1)) (wM_ar (by decide)) (wM_setar (by decide)) h dX6_back_33 (fun st_4 H locs h hI => ?_)
      refine lv_iinc (v := x1 + 1) (lv' := [(1, .int (x1 + 1)), (0, .ref (am 0))]) hx hb dX6_back_34 hl (k := 1) rfl rfl (by decide) rfl (fun ls hl => ?_)
      refine lv_goto (tgt := 16) hx hb dX6_back_37 (by decide) ?_
      exact ih _ _ _ _ _ h hI (lv_sub hl [1, 0] rfl)
set_option maxHeartbeats 4000000 in
set_option maxRecDepth 100000 in
theorem c_X6_back (l : Launch) (g : GP) (X : va_W) (am : Nat → Nat) (N : Nat)  (st : St) {r : Int32} {st' : St} (h : f_X6_back N st = some (r, st')) : MetI l yX6_back wsX6_back rmX6_back g (wMX g X am) [.ref (am 0)] st (r) st' := by
  refine metI_of (cc := cX6_back) (nL := 2) (ty := .int) (by decide) rfl (Nat.le_of_ble_eq_true rfl) rfl ?_
  intro p e s m below meth c Q A C hret H locs hI ls hl
  have C : Cx p s m _ c cX6_back 2 wsX6_back RX6 g A := C
  obtain ⟨hx, hb, hml, hown, hts⟩ := id C.1
  have hl : lv_has ls 2 [(0, .ref (am 0))] := hl
  have hinRX6 : ∀ w ∈ u_ws RX6 TX6 16, w ∈ wsX6_back := by decide +kernel
  have lk172 := hts (.fieldLink RX6 172 "GraveRowsModel" "isKept" "Z") (by decide +kernel)
  have lk9 := hts (.fieldLink RX6 9 "GraveRowsModel" "now" "[I") (by decide +kernel)
  have lc83 := hts (.constant RX6 83 (-100006)) (by decide +kernel)
  rw [f_X6_back] at h
  refine lv_aload_n hx hb dX6_back_0 rfl (lv_at hl 0 rfl) ?_
  refine w_get (v := .int (st 10 0)) C hinRX6 hI X.length wM_ob rfl 2 (by decide) lk172 rfl rfl dX6_back_1 ?_
  refine lv_if_ne (tgt := 14) hx hb dX6_back_4 (by decide) (fun c_1 => ?_) (fun c_1 => ?_)
  · replace h := (if_neg c_1).symm.trans h
    refine lv_iconst (v := 0) hx hb dX6_back_14 (by decide) ?_
    refine lv_istore_n (lv' := [(1, .int 0), (0, .ref (am 0))]) hx hb dX6_back_15 rfl hl (by decide) rfl (fun ls hl => ?_)
    refine wl_X6_back_L16 C hret N _ (fun a_5 st_6 H locs ls h hI hl => ?_) N 0 st H locs ls h hI (lv_sub hl [1, 0] rfl)
    refine lv_aload_n hx hb dX6_back_40 rfl (lv_at hl 0 rfl) ?_
    refine w_get (v := .ref (am 1)) C hinRX6 hI X.length wM_ob rfl 0 (by decide) lk9 rfl rfl dX6_back_41 ?_
    refine lv_iconst (v := 0) hx hb dX6_back_44 (by decide) ?_
    refine w_ldK C hI (X.length + (0 + 1)) (wM_ar (by decide)) 0 (by decide) (by decide) dX6_back_45 ?_
    obtain ⟨rfl, rfl⟩ := ret2 h
    exact hret H locs _ ls hI dX6_back_46
  · replace h := (if_pos c_1).symm.trans h
    refine lv_aload_n hx hb dX6_back_7 rfl (lv_at hl 0 rfl) ?_
    refine lv_ldc (v := (-100006)) hx hb hown lc83 dX6_back_8 ?_
    obtain ⟨r_8, st_9, hr_7, h⟩ := bd2_some h
    refine callV_I (rest := []) C hI (c_X6_finding l g X am (-100006 : Int32) st hr_7) (cwV 1 hts gX6_back_X6_finding rfl rfl rfl hv_X6_finding ⟨Nat.le_of_ble_eq_true rfl, Nat.le_of_ble_eq_true rfl⟩) (w_recv C hI X.length wM_ob rfl) rfl hl.1 rfl (Nat.le_of_ble_eq_true rfl) dX6_back_10 (fun H locs hI => ?_)
    obtain ⟨rfl, rfl⟩ := ret2 h
    exact hret H locs _ ls hI dX6_back_13
theorem hv_X6_back : yX6_back.cls = RX6 ∧ yX6_back.cls ≠ "java/lang/invoke/MethodHandle" ∧ yX6_back.cls ≠ "java/lang/invoke/VarHandle" ∧ (parseMethodDescriptor yX6_back.desc).map (fun d => d.parameters.length) = some 0 := by decide +kernel
/-! X6_told -/
def rmX6_told : Room := { frames := 1, cells := 0, slots := 0, locals := 22 }
def f_X6_told_L20 (N : Nat) (x1 : Int32) (st : St) (k : Int32 → Int32 → Option (Int32 × St)) : Nat → Int32 → Int32 → Option (Int32 × St)
  | 0, _, _ => none
  | n + 1, x2, x3 => if st 0 0 ≤ x3 then k x2 x3 else ck 116 (62 + x3) fun j_4 => bd1 (f_X6_many N (st 0 j_4)) fun r_6 => bnd (x2 + r_6) fun v_7 => f_X6_told_L20 N x1 st k n v_7 (x3 + 1)
def f_X6_told (N : Nat) (st : St) (x1 : Int32) : Option (Int32 × St) := bnd (f_X6_within x1 0 3) fun r_1 => if b2i r_1 = 0 then bd2 (f_X6_finding st (-100001 : Int32)) fun r_14 st_15 => some (r_14, st_15) else f_X6_told_L20 N x1 st (fun a_8 a_9 => if x1 = 0 then some (st 0 0, st) else if x1 = 1 then some (a_8, st) else if x1 = 2 then some (st 10 1, st) else some (st 0 1, st)) N 0 0
set_option maxHeartbeats 4000000 in
set_option maxRecDepth 100000 in
theorem wl_X6_told_L20 {p : Program} {l : Launch} {e : Env} {s : State} {m : MethodId} {args : Array Value} {below : List Frame} {meth : Method} {c : Code} {Q : State → Prop} {A : Nat → Prop} {g : GP} {X : va_W} {am : Nat → Nat} {r : Int32} {st' : St} (C : Cx p s m args c cX6_told 4 wsX6_told RX6 g A) (hret : RetI p l e rmX6_told s m args below meth c Q cX6_told g A (wMX g X am st') (r)) (N : Nat) (x1 : Int32) (st : St)  (k : Int32 → Int32 → Option (Int32 × St)) (hk : ∀ (x2 : Int32) (x3 : Int32) (H : Heap) (locs : List Loc) (ls : Array Slot), k x2 x3 = some (r, st') → IW g A s.heap (wMX g X am st) H locs → lv_has ls 4 [(0, .ref (am 0)), (1, .int x1), (2, .int x2), (3, .int x3)] → W p l e rmX6_told s m args below meth c H locs 0 0 Q (F0 m 51 ls [])) : ∀ (n : Nat) (x2 : Int32) (x3 : Int32) (H : Heap) (locs : List Loc) (ls : Array Slot), f_X6_told_L20 N x1 st k n x2 x3 = some (r, st') → IW g A s.heap (wMX g X am st) H locs → lv_has ls 4 [(0, .ref (am 0)), (1, .int x1), (2, .int x2), (3, .int x3)] → W p l e rmX6_told s m args below meth c H locs 0 0 Q (F0 m 20 ls []) := by
  obtain ⟨hx, hb, hml, hown, hts⟩ := id C.1
  have hinRX6 : ∀ w ∈ u_ws RX6 TX6 16, w ∈ wsX6_told := by decide +kernel
  have lk9 := hts (.fieldLink RX6 9 "GraveRowsModel" "now" "[I") (by decide +kernel)
  intro n
  induction n with
  | zero =>
    intro x2 x3 H locs ls h hI hl
    rw [f_X6_told_L20] at h
    cases h
  | succ n ih =>
    intro x2 x3 H locs ls h hI hl
    rw [f_X6_told_L20] at h
    refine lv_iload_n hx hb dX6_told_20 rfl (lv_at hl 3 rfl) ?_
    refine lv_aload_n hx hb dX6_told_21 rfl (lv_at hl 0 rfl) ?_
    refine w_get (v := .ref (am 1)) C hinRX6 hI X.length wM_ob rfl 0 (by decide) lk9 rfl rfl dX6_told_22 ?_
    refine lv_iconst (v := 0) hx hb dX6_told_25 (by decide) ?_
    refine w_ldK C hI (X.length + (0 + 1)) (wM_ar (by decide)) 0 (by decide) (by decide) dX6_told_26 ?_
    refine lv_icmp_ge (tgt := 51) hx hb dX6_told_27 (by decide) (fun c_3 => ?_) (fun c_3 => ?_)
    · replace h := (if_pos c_3).symm.trans h
      exact hk _ _ _ _ _ h hI (lv_sub hl [0, 1, 2, 3] rfl)
    · replace h := (if_neg c_3).symm.trans h
      refine lv_iload_n hx hb dX6_told_30 rfl (lv_at hl 2 rfl) ?_
      refine lv_aload_n hx hb dX6_told_31 rfl (lv_at hl 0 rfl) ?_
      refine w_get (v := .ref (am 1)) C hinRX6 hI X.length wM_ob rfl 0 (by decide) lk9 rfl rfl dX6_told_32 ?_
      refine lv_bipush (v := 62) hx hb dX6_told_35 (by decide) ?_
      refine lv_iload_n hx hb dX6_told_37 rfl (lv_at hl 3 rfl) ?_
      refine lv_iadd hx hb dX6_told_38 ?_
      refine w_ld C hI (X.length + (0 + 1)) (wM_ar (by decide)) h dX6_told_39 (fun j_4 hj_4 h => ?_)
      obtain ⟨r_6, hr_5, h⟩ := bd1_some h
      refine callS_S (rest := [.int x2]) C.1 (c_X6_many l N (st 0 j_4) hr_5) (va_cwS 1 hts gX6_told_X6_many rfl rfl rfl hd_X6_many ⟨Nat.le_of_ble_eq_true rfl, Nat.le_of_ble_eq_true rfl⟩) rfl hl.1 rfl (Nat.le_of_ble_eq_true rfl) dX6_told_40 ?_
      refine lv_iadd hx hb dX6_told_43 ?_
      refine gen_i h (fun v_7 h => ?_)
      refine lv_istore_n (lv' := [(2, .int v_7), (0, .ref (am 0)), (1, .int x1), (3, .int x3)]) hx hb dX6_told_44 rfl hl (by decide) rfl (fun ls hl => ?_)
      refine lv_iinc (v := x3 + 1) (lv' := [(3, .int (x3 + 1)), (2, .int v_7), (0, .ref (am 0)), (1, .int x1)]) hx hb dX6_told_45 hl (k := 3) rfl rfl (by decide) rfl (fun ls hl => ?_)
      refine lv_goto (tgt := 20) hx hb dX6_told_48 (by decide) ?_
      exact ih _ _ _ _ _ h hI (lv_sub hl [2, 3, 1, 0] rfl)
set_option maxHeartbeats 4000000 in
set_option maxRecDepth 100000 in
theorem c_X6_told (l : Launch) (g : GP) (X : va_W) (am : Nat → Nat) (N : Nat) (x1 : Int32)  (st : St) {r : Int32} {st' : St} (h : f_X6_told N st x1 = some (r, st')) : MetI l yX6_told wsX6_told rmX6_told g (wMX g X am) [.ref (am 0), .int x1] st (r) st' := by
  refine metI_of (cc := cX6_told) (nL := 4) (ty := .int) (by decide) rfl (Nat.le_of_ble_eq_true rfl) rfl ?_
  intro p e s m below meth c Q A C hret H locs hI ls hl
  have C : Cx p s m _ c cX6_told 4 wsX6_told RX6 g A := C
  obtain ⟨hx, hb, hml, hown, hts⟩ := id C.1
  have hl : lv_has ls 4 [(0, .ref (am 0)), (1, .int x1)] := hl
  have hinRX6 : ∀ w ∈ u_ws RX6 TX6 16, w ∈ wsX6_told := by decide +kernel
  have lk9 := hts (.fieldLink RX6 9 "GraveRowsModel" "now" "[I") (by decide +kernel)
  have lk40 := hts (.fieldLink RX6 40 "GraveRowsModel" "findings" "I") (by decide +kernel)
  have lc48 := hts (.constant RX6 48 (-100001)) (by decide +kernel)
  rw [f_X6_told] at h
  refine lv_iload_n hx hb dX6_told_0 rfl (lv_at hl 1 rfl) ?_
  refine lv_iconst (v := 0) hx hb dX6_told_1 (by decide) ?_
  refine lv_iconst (v := 3) hx hb dX6_told_2 (by decide) ?_
  refine callS_S (rest := []) C.1 (c_X6_within l x1 0 3) (va_cwS 3 hts gX6_told_X6_within rfl rfl rfl hd_X6_within ⟨Nat.le_of_ble_eq_true rfl, Nat.le_of_ble_eq_true rfl⟩) rfl hl.1 rfl (Nat.le_of_ble_eq_true rfl) dX6_told_3 ?_
  refine gen_b h (fun r_1 h => ?_)
  refine lv_if_ne (tgt := 16) hx hb dX6_told_6 (by decide) (fun c_2 => ?_) (fun c_2 => ?_)
  · replace h := (if_neg c_2).symm.trans h
    refine lv_iconst (v := 0) hx hb dX6_told_16 (by decide) ?_
    refine lv_istore_n (lv' := [(2, .int 0), (0, .ref (am 0)), (1, .int x1)]) hx hb dX6_told_17 rfl hl (by decide) rfl (fun ls hl => ?_)
    refine lv_iconst (v := 0) hx hb dX6_told_18 (by decide) ?_
    refine lv_istore_n (lv' := [(3, .int 0), (2, .int 0), (0, .ref (am 0)), (1, .int x1)]) hx hb dX6_told_19 rfl hl (by decide) rfl (fun ls hl => ?_)
    refine wl_X6_told_L20 C hret N x1 st _ (fun a_8 a_9 H locs ls h hI hl => ?_) N 0 0 H locs ls h hI (lv_sub hl [2, 3, 1, 0] rfl)
    refine lv_iload_n hx hb dX6_told_51 rfl (lv_at hl 1 rfl) ?_
    refine lv_if_ne (tgt := 64) hx hb dX6_told_52 (by decide) (fun c_10 => ?_) (fun c_10 => ?_)
    · replace h := (if_neg c_10).symm.trans h
      refine lv_iload_n hx hb dX6_told_64 rfl (lv_at hl 1 rfl) ?_
      refine lv_iconst (v := 1) hx hb dX6_told_65 (by decide) ?_
      refine lv_icmp_ne (tgt := 73) hx hb dX6_told_66 (by decide) (fun c_11 => ?_) (fun c_11 => ?_)
      · replace h := (if_neg c_11).symm.trans h
        refine lv_iload_n hx hb dX6_told_73 rfl (lv_at hl 1 rfl) ?_
        refine lv_iconst (v := 2) hx hb dX6_told_74 (by decide) ?_
        refine lv_icmp_ne (tgt := 85) hx hb dX6_told_75 (by decide) (fun c_12 => ?_) (fun c_12 => ?_)
        · replace h := (if_neg c_12).symm.trans h
          refine lv_aload_n hx hb dX6_told_85 rfl (lv_at hl 0 rfl) ?_
          refine w_get (v := .ref (am 1)) C hinRX6 hI X.length wM_ob rfl 0 (by decide) lk9 rfl rfl dX6_told_86 ?_
          refine lv_iconst (v := 1) hx hb dX6_told_89 (by decide) ?_
          refine w_ldK C hI (X.length + (0 + 1)) (wM_ar (by decide)) 1 (by decide) (by decide) dX6_told_90 ?_
          obtain ⟨rfl, rfl⟩ := ret2 h
          exact hret H locs _ ls hI dX6_told_91
        · replace h := (if_pos c_12).symm.trans h
          refine lv_aload_n hx hb dX6_told_78 rfl (lv_at hl 0 rfl) ?_
          refine w_get (v := .int (st 10 1)) C hinRX6 hI X.length wM_ob rfl 3 (by decide) lk40 rfl rfl dX6_told_79 ?_
          refine lv_goto (tgt := 91) hx hb dX6_told_82 (by decide) ?_
          obtain ⟨rfl, rfl⟩ := ret2 h
          exact hret H locs _ ls hI dX6_told_91
      · replace h := (if_pos c_11).symm.trans h
        refine lv_iload_n hx hb dX6_told_69 rfl (lv_at hl 2 rfl) ?_
        refine lv_goto (tgt := 91) hx hb dX6_told_70 (by decide) ?_
        obtain ⟨rfl, rfl⟩ := ret2 h
        exact hret H locs _ ls hI dX6_told_91
    · replace h := (if_pos c_10).symm.trans h
      refine lv_aload_n hx hb dX6_told_55 rfl (lv_at hl 0 rfl) ?_
      refine w_get (v := .ref (am 1)) C hinRX6 hI X.length wM_ob rfl 0 (by decide) lk9 rfl rfl dX6_told_56 ?_
      refine lv_iconst (v := 0) hx hb dX6_told_59 (by decide) ?_
      refine w_ldK C hI (X.length + (0 + 1)) (wM_ar (by decide)) 0 (by decide) (by decide) dX6_told_60 ?_
      refine lv_goto (tgt := 91) hx hb dX6_told_61 (by decide) ?_
      obtain ⟨rfl, rfl⟩ := ret2 h
      exact hret H locs _ ls hI dX6_told_91
  · replace h := (if_pos c_2).symm.trans h
    refine lv_aload_n hx hb dX6_told_9 rfl (lv_at hl 0 rfl) ?_
    refine lv_ldc (v := (-100001)) hx hb hown lc48 dX6_told_10 ?_
    obtain ⟨r_14, st_15, hr_13, h⟩ := bd2_some h
    refine callV_I (rest := []) C hI (c_X6_finding l g X am (-100001 : Int32) st hr_13) (cwV 1 hts gX6_told_X6_finding rfl rfl rfl hv_X6_finding ⟨Nat.le_of_ble_eq_true rfl, Nat.le_of_ble_eq_true rfl⟩) (w_recv C hI X.length wM_ob rfl) rfl hl.1 rfl (Nat.le_of_ble_eq_true rfl) dX6_told_12 (fun H locs hI => ?_)
    obtain ⟨rfl, rfl⟩ := ret2 h
    exact hret H locs _ ls hI dX6_told_15
theorem hv_X6_told : yX6_told.cls = RX6 ∧ yX6_told.cls ≠ "java/lang/invoke/MethodHandle" ∧ yX6_told.cls ≠ "java/lang/invoke/VarHandle" ∧ (parseMethodDescriptor yX6_told.desc).map (fun d => d.parameters.length) = some 1 := by decide +kernel
