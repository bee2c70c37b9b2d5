/-! X6_isSheet -/
def rmX6_isSheet : Room := { frames := 1, cells := 0, slots := 0, locals := 22 }
def f_X6_isSheet (x0 : Int32) : Bool := bnd (f_X6_within x0 0 3) fun r_1 => r_1
set_option maxHeartbeats 4000000 in
set_option maxRecDepth 100000 in
theorem c_X6_isSheet (l : Launch) (x0 : Int32) : MetS l yX6_isSheet wsX6_isSheet rmX6_isSheet [.int x0] (b2i (f_X6_isSheet x0)) := by
  refine metS_of (cc := cX6_isSheet) (nL := 1) (ty := .boolean) (by decide) rfl (Nat.le_of_ble_eq_true rfl) (nar_b _) ?_
  intro p e s m below meth c Q C hret ls hl
  have C : CallFix p m c cX6_isSheet 1 s _ wsX6_isSheet RX6 := C
  obtain ⟨hx, hb, hml, hown, hts⟩ := id C
  have hl : lv_has ls 1 [(0, .int x0)] := hl
  generalize hgen : f_X6_isSheet x0 = r at hret
  have h := hgen
  rw [f_X6_isSheet] at h
  refine lv_iload_n hx hb dX6_isSheet_0 rfl (lv_at hl 0 rfl) ?_
  refine lv_iconst (v := 0) hx hb dX6_isSheet_1 (by decide) ?_
  refine lv_iconst (v := 3) hx hb dX6_isSheet_2 (by decide) ?_
  refine callS_S (rest := []) C (c_X6_within l x0 0 3) (va_cwS 3 hts gX6_isSheet_X6_within rfl rfl rfl hd_X6_within ⟨Nat.le_of_ble_eq_true rfl, Nat.le_of_ble_eq_true rfl⟩) rfl hl.1 rfl (Nat.le_of_ble_eq_true rfl) dX6_isSheet_3 ?_
  refine gen_b h (fun r_1 h => ?_)
  subst h
  exact hret _ ls dX6_isSheet_6
theorem hd_X6_isSheet : yX6_isSheet.cls ≠ "java/lang/invoke/MethodHandle" ∧ yX6_isSheet.cls ≠ "java/lang/invoke/VarHandle" ∧ (parseMethodDescriptor yX6_isSheet.desc).map (fun d => d.parameters.length) = some 1 := by decide +kernel
/-! X6_sheet -/
def rmX6_sheet : Room := { frames := 2, cells := 0, slots := 0, locals := 42 }
def f_X6_sheet_L85 (N : Nat) (x1 : Int32) (k : Int32 → St → Option (Int32 × St)) : Nat → Int32 → St → Option (Int32 × St)
  | 0, _, _ => none
  | n + 1, x4, st => if 12 ≤ x4 then k x4 st else sto 48 st 4 ((12 * x1) + x4) 0 fun st_13 => f_X6_sheet_L85 N x1 k n (x4 + 1) st_13
def f_X6_sheet (N : Nat) (st : St) (x1 : Int32) (x2 : Int32) (x3 : Int32) : Option (Int32 × St) := bnd (f_X6_isSheet x1) fun r_1 => if b2i r_1 = 0 then bd2 (f_X6_finding st (-100001 : Int32)) fun r_4 st_5 => some (r_4, st_5) else if x2 = 0 then if 0 ≤ x3 then if x3 ≤ 12 then sto 4 st 2 x1 x2 fun st_9 => if x2 = 0 then sto 4 st_9 3 x1 0 fun st_17 => f_X6_sheet_L85 N x1 (fun a_18 st_19 => ck 4 x1 fun j_20 => some (st_19 3 j_20, st_19)) N 0 st_17 else sto 4 st_9 3 x1 x3 fun st_11 => f_X6_sheet_L85 N x1 (fun a_14 st_15 => ck 4 x1 fun j_16 => some (st_15 3 j_16, st_15)) N 0 st_11 else bd2 (f_X6_finding st (-100001 : Int32)) fun r_22 st_23 => some (r_22, st_23) else bd2 (f_X6_finding st (-100003 : Int32)) fun r_25 st_26 => some (r_25, st_26) else if x2 = 8 then if 0 ≤ x3 then if x3 ≤ 12 then sto 4 st 2 x1 x2 fun st_30 => if x2 = 0 then sto 4 st_30 3 x1 0 fun st_36 => f_X6_sheet_L85 N x1 (fun a_37 st_38 => ck 4 x1 fun j_39 => some (st_38 3 j_39, st_38)) N 0 st_36 else sto 4 st_30 3 x1 x3 fun st_32 => f_X6_sheet_L85 N x1 (fun a_33 st_34 => ck 4 x1 fun j_35 => some (st_34 3 j_35, st_34)) N 0 st_32 else bd2 (f_X6_finding st (-100001 : Int32)) fun r_41 st_42 => some (r_41, st_42) else bd2 (f_X6_finding st (-100003 : Int32)) fun r_44 st_45 => some (r_44, st_45) else if x2 = 16 then if 0 ≤ x3 then if x3 ≤ 12 then sto 4 st 2 x1 x2 fun st_49 => if x2 = 0 then sto 4 st_49 3 x1 0 fun st_55 => f_X6_sheet_L85 N x1 (fun a_56 st_57 => ck 4 x1 fun j_58 => some (st_57 3 j_58, st_57)) N 0 st_55 else sto 4 st_49 3 x1 x3 fun st_51 => f_X6_sheet_L85 N x1 (fun a_52 st_53 => ck 4 x1 fun j_54 => some (st_53 3 j_54, st_53)) N 0 st_51 else bd2 (f_X6_finding st (-100001 : Int32)) fun r_60 st_61 => some (r_60, st_61) else bd2 (f_X6_finding st (-100003 : Int32)) fun r_63 st_64 => some (r_63, st_64) else if x2 = 32 then if 0 ≤ x3 then if x3 ≤ 12 then sto 4 st 2 x1 x2 fun st_68 => if x2 = 0 then sto 4 st_68 3 x1 0 fun st_74 => f_X6_sheet_L85 N x1 (fun a_75 st_76 => ck 4 x1 fun j_77 => some (st_76 3 j_77, st_76)) N 0 st_74 else sto 4 st_68 3 x1 x3 fun st_70 => f_X6_sheet_L85 N x1 (fun a_71 st_72 => ck 4 x1 fun j_73 => some (st_72 3 j_73, st_72)) N 0 st_70 else bd2 (f_X6_finding st (-100001 : Int32)) fun r_79 st_80 => some (r_79, st_80) else bd2 (f_X6_finding st (-100003 : Int32)) fun r_82 st_83 => some (r_82, st_83) else bd2 (f_X6_finding st (-100001 : Int32)) fun r_85 st_86 => some (r_85, st_86)
set_option maxHeartbeats 4000000 in
set_option maxRecDepth 100000 in
theorem wl_X6_sheet_L85 {p : Program} {l : Launch} {e : Env} {s : State} {m : MethodId} {args : Array Value} {below : List Frame} {meth : Method} {c : Code} {Q : State → Prop} {A : Nat → Prop} {g : GP} {X : va_W} {am : Nat → Nat} {r : Int32} {st' : St} (C : Cx p s m args c cX6_sheet 5 wsX6_sheet RX6 g A) (hret : RetI p l e rmX6_sheet s m args below meth c Q cX6_sheet g A (wMX g X am st') (r)) (N : Nat) (x1 : Int32)  (k : Int32 → St → Option (Int32 × St)) (hk : ∀ (x4 : Int32) (st : St) (H : Heap) (locs : List Loc) (ls : Array Slot), k x4 st = some (r, st') → IW g A s.heap (wMX g X am st) H locs → lv_has ls 5 [(0, .ref (am 0)), (1, .int x1), (4, .int x4)] → W p l e rmX6_sheet s m args below meth c H locs 0 0 Q (F0 m 111 ls [])) : ∀ (n : Nat) (x4 : Int32) (st : St) (H : Heap) (locs : List Loc) (ls : Array Slot), f_X6_sheet_L85 N x1 k n x4 st = some (r, st') → IW g A s.heap (wMX g X am st) H locs → lv_has ls 5 [(0, .ref (am 0)), (1, .int x1), (4, .int x4)] → W p l e rmX6_sheet s m args below meth c H locs 0 0 Q (F0 m 85 ls []) := by
  obtain ⟨hx, hb, hml, hown, hts⟩ := id C.1
  have hinRX6 : ∀ w ∈ u_ws RX6 TX6 16, w ∈ wsX6_sheet := by decide +kernel
  have lk22 := hts (.fieldLink RX6 22 "GraveRowsModel" "sheets" "[I") (by decide +kernel)
  intro n
  induction n with
  | zero =>
    intro x4 st H locs ls h hI hl
    rw [f_X6_sheet_L85] at h
    cases h
  | succ n ih =>
    intro x4 st H locs ls h hI hl
    rw [f_X6_sheet_L85] at h
    refine lv_iload hx hb dX6_sheet_85 (lv_at hl 2 rfl) ?_
    refine lv_bipush (v := 12) hx hb dX6_sheet_87 (by decide) ?_
    refine lv_icmp_ge (tgt := 111) hx hb dX6_sheet_89 (by decide) (fun c_12 => ?_) (fun c_12 => ?_)
    · replace h := (if_pos c_12).symm.trans h
      exact hk _ _ _ _ _ h hI (lv_sub hl [0, 1, 2] rfl)
    · replace h := (if_neg c_12).symm.trans h
      refine lv_aload_n hx hb dX6_sheet_92 rfl (lv_at hl 0 rfl) ?_
      refine w_get (v := .ref (am 5)) C hinRX6 hI X.length wM_ob rfl 6 (by decide) lk22 rfl rfl dX6_sheet_93 ?_
      refine lv_bipush (v := 12) hx hb dX6_sheet_96 (by decide) ?_
      refine lv_iload_n hx hb dX6_sheet_98 rfl (lv_at hl 1 rfl) ?_
      refine lv_imul hx hb dX6_sheet_99 ?_
      refine lv_iload hx hb dX6_sheet_100 (lv_at hl 2 rfl) ?_
      refine lv_iadd hx hb dX6_sheet_102 ?_
      refine lv_iconst (v := 0) hx hb dX6_sheet_103 (by decide) ?_
      refine w_st C hI (X.length + (4 + 1)) (wM_ar (by decide)) (wM_setar (by decide)) h dX6_sheet_104 (fun st_13 H locs h hI => ?_)
      refine lv_iinc (v := x4 + 1) (lv' := [(4, .int (x4 + 1)), (0, .ref (am 0)), (1, .int x1)]) hx hb dX6_sheet_105 hl (k := 2) rfl rfl (by decide) rfl (fun ls hl => ?_)
      refine lv_goto (tgt := 85) hx hb dX6_sheet_108 (by decide) ?_
      exact ih _ _ _ _ _ h hI (lv_sub hl [1, 2, 0] rfl)
set_option maxHeartbeats 4000000 in
set_option maxRecDepth 100000 in
theorem c_X6_sheet (l : Launch) (g : GP) (X : va_W) (am : Nat → Nat) (N : Nat) (x1 : Int32) (x2 : Int32) (x3 : Int32)  (st : St) {r : Int32} {st' : St} (h : f_X6_sheet N st x1 x2 x3 = some (r, st')) : MetI l yX6_sheet wsX6_sheet rmX6_sheet g (wMX g X am) [.ref (am 0), .int x1, .int x2, .int x3] st (r) st' := by
  refine metI_of (cc := cX6_sheet) (nL := 5) (ty := .int) (by decide) rfl (Nat.le_of_ble_eq_true rfl) rfl ?_
  intro p e s m below meth c Q A C hret H locs hI ls hl
  have C : Cx p s m _ c cX6_sheet 5 wsX6_sheet RX6 g A := C
  obtain ⟨hx, hb, hml, hown, hts⟩ := id C.1
  have hl : lv_has ls 5 [(0, .ref (am 0)), (1, .int x1), (2, .int x2), (3, .int x3)] := hl
  have lc48 := hts (.constant RX6 48 (-100001)) (by decide +kernel)
  have hinRX6 : ∀ w ∈ u_ws RX6 TX6 16, w ∈ wsX6_sheet := by decide +kernel
  have lk16 := hts (.fieldLink RX6 16 "GraveRowsModel" "bits" "[I") (by decide +kernel)
  have lk19 := hts (.fieldLink RX6 19 "GraveRowsModel" "sizes" "[I") (by decide +kernel)
  have lc72 := hts (.constant RX6 72 (-100003)) (by decide +kernel)
  rw [f_X6_sheet] at h
  refine lv_iload_n hx hb dX6_sheet_0 rfl (lv_at hl 1 rfl) ?_
  refine callS_S (rest := []) C.1 (c_X6_isSheet l x1) (va_cwS 1 hts gX6_sheet_X6_isSheet rfl rfl rfl hd_X6_isSheet ⟨Nat.le_of_ble_eq_true rfl, Nat.le_of_ble_eq_true rfl⟩) rfl hl.1 rfl (Nat.le_of_ble_eq_true rfl) dX6_sheet_1 ?_
  refine gen_b h (fun r_1 h => ?_)
  refine lv_if_eq (tgt := 29) hx hb dX6_sheet_4 (by decide) (fun c_2 => ?_) (fun c_2 => ?_)
  · replace h := (if_pos c_2).symm.trans h
    refine lv_aload_n hx hb dX6_sheet_29 rfl (lv_at hl 0 rfl) ?_
    refine lv_ldc (v := (-100001)) hx hb hown lc48 dX6_sheet_30 ?_
    obtain ⟨r_4, st_5, hr_3, h⟩ := bd2_some h
    refine callV_I (rest := []) C hI (c_X6_finding l g X am (-100001 : Int32) st hr_3) (cwV 1 hts gX6_sheet_X6_finding rfl rfl rfl hv_X6_finding ⟨Nat.le_of_ble_eq_true rfl, Nat.le_of_ble_eq_true rfl⟩) (w_recv C hI X.length wM_ob rfl) rfl hl.1 rfl (Nat.le_of_ble_eq_true rfl) dX6_sheet_32 (fun H locs hI => ?_)
    obtain ⟨rfl, rfl⟩ := ret2 h
    exact hret H locs _ ls hI dX6_sheet_35
  · replace h := (if_neg c_2).symm.trans h
    refine lv_iload_n hx hb dX6_sheet_7 rfl (lv_at hl 2 rfl) ?_
    refine lv_if_eq (tgt := 36) hx hb dX6_sheet_8 (by decide) (fun c_6 => ?_) (fun c_6 => ?_)
    · replace h := (if_pos c_6).symm.trans h
      refine lv_iload_n hx hb dX6_sheet_36 rfl (lv_at hl 3 rfl) ?_
      refine lv_if_ge (tgt := 47) hx hb dX6_sheet_37 (by decide) (fun c_7 => ?_) (fun c_7 => ?_)
      · replace h := (if_pos c_7).symm.trans h
        refine lv_iload_n hx hb dX6_sheet_47 rfl (lv_at hl 3 rfl) ?_
        refine lv_bipush (v := 12) hx hb dX6_sheet_48 (by decide) ?_
        refine lv_icmp_le (tgt := 60) hx hb dX6_sheet_50 (by decide) (fun c_8 => ?_) (fun c_8 => ?_)
        · replace h := (if_pos c_8).symm.trans h
          refine lv_aload_n hx hb dX6_sheet_60 rfl (lv_at hl 0 rfl) ?_
          refine w_get (v := .ref (am 3)) C hinRX6 hI X.length wM_ob rfl 4 (by decide) lk16 rfl rfl dX6_sheet_61 ?_
          refine lv_iload_n hx hb dX6_sheet_64 rfl (lv_at hl 1 rfl) ?_
          refine lv_iload_n hx hb dX6_sheet_65 rfl (lv_at hl 2 rfl) ?_
          refine w_st C hI (X.length + (2 + 1)) (wM_ar (by decide)) (wM_setar (by decide)) h dX6_sheet_66 (fun st_9 H locs h hI => ?_)
          refine lv_aload_n hx hb dX6_sheet_67 rfl (lv_at hl 0 rfl) ?_
          refine w_get (v := .ref (am 4)) C hinRX6 hI X.length wM_ob rfl 5 (by decide) lk19 rfl rfl dX6_sheet_68 ?_
          refine lv_iload_n hx hb dX6_sheet_71 rfl (lv_at hl 1 rfl) ?_
          refine lv_iload_n hx hb dX6_sheet_72 rfl (lv_at hl 2 rfl) ?_
          refine lv_if_ne (tgt := 80) hx hb dX6_sheet_73 (by decide) (fun c_10 => ?_) (fun c_10 => ?_)
          · replace h := (if_neg c_10).symm.trans h
            refine lv_iload_n hx hb dX6_sheet_80 rfl (lv_at hl 3 rfl) ?_
            refine w_st C hI (X.length + (3 + 1)) (wM_ar (by decide)) (wM_setar (by decide)) h dX6_sheet_81 (fun st_11 H locs h hI => ?_)
            refine lv_iconst (v := 0) hx hb dX6_sheet_82 (by decide) ?_
            refine lv_istore (lv' := [(4, .int 0), (0, .ref (am 0)), (1, .int x1), (2, .int x2), (3, .int x3)]) hx hb dX6_sheet_83 hl (by decide) rfl (fun ls hl => ?_)
            refine wl_X6_sheet_L85 C hret N x1 _ (fun a_14 st_15 H locs ls h hI hl => ?_) N 0 st_11 H locs ls h hI (lv_sub hl [1, 2, 0] rfl)
            refine lv_aload_n hx hb dX6_sheet_111 rfl (lv_at hl 0 rfl) ?_
            refine w_get (v := .ref (am 4)) C hinRX6 hI X.length wM_ob rfl 5 (by decide) lk19 rfl rfl dX6_sheet_112 ?_
            refine lv_iload_n hx hb dX6_sheet_115 rfl (lv_at hl 1 rfl) ?_
            refine w_ld C hI (X.length + (3 + 1)) (wM_ar (by decide)) h dX6_sheet_116 (fun j_16 hj_16 h => ?_)
            obtain ⟨rfl, rfl⟩ := ret2 h
            exact hret H locs _ ls hI dX6_sheet_117
          · replace h := (if_pos c_10).symm.trans h
            refine lv_iconst (v := 0) hx hb dX6_sheet_76 (by decide) ?_
            refine lv_goto (tgt := 81) hx hb dX6_sheet_77 (by decide) ?_
            refine w_st C hI (X.length + (3 + 1)) (wM_ar (by decide)) (wM_setar (by decide)) h dX6_sheet_81 (fun st_17 H locs h hI => ?_)
            refine lv_iconst (v := 0) hx hb dX6_sheet_82 (by decide) ?_
            refine lv_istore (lv' := [(4, .int 0), (0, .ref (am 0)), (1, .int x1), (2, .int x2), (3, .int x3)]) hx hb dX6_sheet_83 hl (by decide) rfl (fun ls hl => ?_)
            refine wl_X6_sheet_L85 C hret N x1 _ (fun a_18 st_19 H locs ls h hI hl => ?_) N 0 st_17 H locs ls h hI (lv_sub hl [1, 2, 0] rfl)
            refine lv_aload_n hx hb dX6_sheet_111 rfl (lv_at hl 0 rfl) ?_
            refine w_get (v := .ref (am 4)) C hinRX6 hI X.length wM_ob rfl 5 (by decide) lk19 rfl rfl dX6_sheet_112 ?_
            refine lv_iload_n hx hb dX6_sheet_115 rfl (lv_at hl 1 rfl) ?_
            refine w_ld C hI (X.length + (3 + 1)) (wM_ar (by decide)) h dX6_sheet_116 (fun j_20 hj_20 h => ?_)
            obtain ⟨rfl, rfl⟩ := ret2 h
            exact hret H locs _ ls hI dX6_sheet_117
        · replace h := (if_neg c_8).symm.trans h
          refine lv_aload_n hx hb dX6_sheet_53 rfl (lv_at hl 0 rfl) ?_
          refine lv_ldc (v := (-100001)) hx hb hown lc48 dX6_sheet_54 ?_
          obtain ⟨r_22, st_23, hr_21, h⟩ := bd2_some h
          refine callV_I (rest := []) C hI (c_X6_finding l g X am (-100001 : Int32) st hr_21) (cwV 1 hts gX6_sheet_X6_finding rfl rfl rfl hv_X6_finding ⟨Nat.le_of_ble_eq_true rfl, Nat.le_of_ble_eq_true rfl⟩) (w_recv C hI X.length wM_ob rfl) rfl hl.1 rfl (Nat.le_of_ble_eq_true rfl) dX6_sheet_56 (fun H locs hI => ?_)
          obtain ⟨rfl, rfl⟩ := ret2 h
          exact hret H locs _ ls hI dX6_sheet_59
      · replace h := (if_neg c_7).symm.trans h
        refine lv_aload_n hx hb dX6_sheet_40 rfl (lv_at hl 0 rfl) ?_
        refine lv_ldc (v := (-100003)) hx hb hown lc72 dX6_sheet_41 ?_
        obtain ⟨r_25, st_26, hr_24, h⟩ := bd2_some h
        refine callV_I (rest := []) C hI (c_X6_finding l g X am (-100003 : Int32) st hr_24) (cwV 1 hts gX6_sheet_X6_finding rfl rfl rfl hv_X6_finding ⟨Nat.le_of_ble_eq_true rfl, Nat.le_of_ble_eq_true rfl⟩) (w_recv C hI X.length wM_ob rfl) rfl hl.1 rfl (Nat.le_of_ble_eq_true rfl) dX6_sheet_43 (fun H locs hI => ?_)
        obtain ⟨rfl, rfl⟩ := ret2 h
        exact hret H locs _ ls hI dX6_sheet_46
    · replace h := (if_neg c_6).symm.trans h
      refine lv_iload_n hx hb dX6_sheet_11 rfl (lv_at hl 2 rfl) ?_
      refine lv_bipush (v := 8) hx hb dX6_sheet_12 (by decide) ?_
      refine lv_icmp_eq (tgt := 36) hx hb dX6_sheet_14 (by decide) (fun c_27 => ?_) (fun c_27 => ?_)
      · replace h := (if_pos c_27).symm.trans h
        refine lv_iload_n hx hb dX6_sheet_36 rfl (lv_at hl 3 rfl) ?_
        refine lv_if_ge (tgt := 47) hx hb dX6_sheet_37 (by decide) (fun c_28 => ?_) (fun c_28 => ?_)
        · replace h := (if_pos c_28).symm.trans h
          refine lv_iload_n hx hb dX6_sheet_47 rfl (lv_at hl 3 rfl) ?_
          refine lv_bipush (v := 12) hx hb dX6_sheet_48 (by decide) ?_
          refine lv_icmp_le (tgt := 60) hx hb dX6_sheet_50 (by decide) (fun c_29 => ?_) (fun c_29 => ?_)
          · replace h := (if_pos c_29).symm.trans h
            refine lv_aload_n hx hb dX6_sheet_60 rfl (lv_at hl 0 rfl) ?_
            refine w_get (v := .ref (am 3)) C hinRX6 hI X.length wM_ob rfl 4 (by decide) lk16 rfl rfl dX6_sheet_61 ?_
            refine lv_iload_n hx hb dX6_sheet_64 rfl (lv_at hl 1 rfl) ?_
            refine lv_iload_n hx hb dX6_sheet_65 rfl (lv_at hl 2 rfl) ?_
            refine w_st C hI (X.length + (2 + 1)) (wM_ar (by decide)) (wM_setar (by decide)) h dX6_sheet_66 (fun st_30 H locs h hI => ?_)
            refine lv_aload_n hx hb dX6_sheet_67 rfl (lv_at hl 0 rfl) ?_
            refine w_get (v := .ref (am 4)) C hinRX6 hI X.length wM_ob rfl 5 (by decide) lk19 rfl rfl dX6_sheet_68 ?_
            refine lv_iload_n hx hb dX6_sheet_71 rfl (lv_at hl 1 rfl) ?_
            refine lv_iload_n hx hb dX6_sheet_72 rfl (lv_at hl 2 rfl) ?_
            refine lv_if_ne (tgt := 80) hx hb dX6_sheet_73 (by decide) (fun c_31 => ?_) (fun c_31 => ?_)
            · replace h := (if_neg c_31).symm.trans h
              refine lv_iload_n hx hb dX6_sheet_80 rfl (lv_at hl 3 rfl) ?_
              refine w_st C hI (X.length + (3 + 1)) (wM_ar (by decide)) (wM_setar (by decide)) h dX6_sheet_81 (fun st_32 H locs h hI => ?_)
              refine lv_iconst (v := 0) hx hb dX6_sheet_82 (by decide) ?_
              refine lv_istore (lv' := [(4, .int 0), (0, .ref (am 0)), (1, .int x1), (2, .int x2), (3, .int x3)]) hx hb dX6_sheet_83 hl (by decide) rfl (fun ls hl => ?_)
              refine wl_X6_sheet_L85 C hret N x1 _ (fun a_33 st_34 H locs ls h hI hl => ?_) N 0 st_32 H locs ls h hI (lv_sub hl [1, 2, 0] rfl)
              refine lv_aload_n hx hb dX6_sheet_111 rfl (lv_at hl 0 rfl) ?_
              refine w_get (v := .ref (am 4)) C hinRX6 hI X.length wM_ob rfl 5 (by decide) lk19 rfl rfl dX6_sheet_112 ?_
              refine lv_iload_n hx hb dX6_sheet_115 rfl (lv_at hl 1 rfl) ?_
              refine w_ld C hI (X.length + (3 + 1)) (wM_ar (by decide)) h dX6_sheet_116 (fun j_35 hj_35 h => ?_)
              obtain ⟨rfl, rfl⟩ := ret2 h
              exact hret H locs _ ls hI dX6_sheet_117
            · replace h := (if_pos c_31).symm.trans h
              refine lv_iconst (v := 0) hx hb dX6_sheet_76 (by decide) ?_
              refine lv_goto (tgt := 81) hx hb dX6_sheet_77 (by decide) ?_
              refine w_st C hI (X.length + (3 + 1)) (wM_ar (by decide)) (wM_setar (by decide)) h dX6_sheet_81 (fun st_36 H locs h hI => ?_)
              refine lv_iconst (v := 0) hx hb dX6_sheet_82 (by decide) ?_
              refine lv_istore (lv' := [(4, .int 0), (0, .ref (am 0)), (1, .int x1), (2, .int x2), (3, .int x3)]) hx hb dX6_sheet_83 hl (by decide) rfl (fun ls hl => ?_)
              refine wl_X6_sheet_L85 C hret N x1 _ (fun a_37 st_38 H locs ls h hI hl => ?_) N 0 st_36 H locs ls h hI (lv_sub hl [1, 2, 0] rfl)
              refine lv_aload_n hx hb dX6_sheet_111 rfl (lv_at hl 0 rfl) ?_
              refine w_get (v := .ref (am 4)) C hinRX6 hI X.length wM_ob rfl 5 (by decide) lk19 rfl rfl dX6_sheet_112 ?_
              refine lv_iload_n hx hb dX6_sheet_115 rfl (lv_at hl 1 rfl) ?_
              refine w_ld C hI (X.length + (3 + 1)) (wM_ar (by decide)) h dX6_sheet_116 (fun j_39 hj_39 h => ?_)
              obtain ⟨rfl, rfl⟩ := ret2 h
              exact hret H locs _ ls hI dX6_sheet_117
          · replace h := (if_neg c_29).symm.trans h
            refine lv_aload_n hx hb dX6_sheet_53 rfl (lv_at hl 0 rfl) ?_
            refine lv_ldc (v := (-100001)) hx hb hown lc48 dX6_sheet_54 ?_
            obtain ⟨r_41, st_42, hr_40, h⟩ := bd2_some h
            refine callV_I (rest := []) C hI (c_X6_finding l g X am (-100001 : Int32) st hr_40) (cwV 1 hts gX6_sheet_X6_finding rfl rfl rfl hv_X6_finding ⟨Nat.le_of_ble_eq_true rfl, Nat.le_of_ble_eq_true rfl⟩) (w_recv C hI X.length wM_ob rfl) rfl hl.1 rfl (Nat.le_of_ble_eq_true rfl) dX6_sheet_56 (fun H locs hI => ?_)
            obtain ⟨rfl, rfl⟩ := ret2 h
            exact hret H locs _ ls hI dX6_sheet_59
        · replace h := (if_neg c_28).symm.trans h
          refine lv_aload_n hx hb dX6_sheet_40 rfl (lv_at hl 0 rfl) ?_
          refine lv_ldc (v := (-100003)) hx hb hown lc72 dX6_sheet_41 ?_
          obtain ⟨r_44, st_45, hr_43, h⟩ := bd2_some h
          refine callV_I (rest := []) C hI (c_X6_finding l g X am (-100003 : Int32) st hr_43) (cwV 1 hts gX6_sheet_X6_finding rfl rfl rfl hv_X6_finding ⟨Nat.le_of_ble_eq_true rfl, Nat.le_of_ble_eq_true rfl⟩) (w_recv C hI X.length wM_ob rfl) rfl hl.1 rfl (Nat.le_of_ble_eq_true rfl) dX6_sheet_43 (fun H locs hI => ?_)
          obtain ⟨rfl, rfl⟩ := ret2 h
          exact hret H locs _ ls hI dX6_sheet_46
      · replace h := (if_neg c_27).symm.trans h
        refine lv_iload_n hx hb dX6_sheet_17 rfl (lv_at hl 2 rfl) ?_
        refine lv_bipush (v := 16) hx hb dX6_sheet_18 (by decide) ?_
        refine lv_icmp_eq (tgt := 36) hx hb dX6_sheet_20 (by decide) (fun c_46 => ?_) (fun c_46 => ?_)
        · replace h := (if_pos c_46).symm.trans h
          refine lv_iload_n hx hb dX6_sheet_36 rfl (lv_at hl 3 rfl) ?_
          refine lv_if_ge (tgt := 47) hx hb dX6_sheet_37 (by decide) (fun c_47 => ?_) (fun c_47 => ?_)
          · replace h := (if_pos c_47).symm.trans h
            refine lv_iload_n hx hb dX6_sheet_47 rfl (lv_at hl 3 rfl) ?_
            refine lv_bipush (v := 12) hx hb dX6_sheet_48 (by decide) ?_
            refine lv_icmp_le (tgt := 60) hx hb dX6_sheet_50 (by decide) (fun c_48 => ?_) (fun c_48 => ?_)
            · replace h := (if_pos c_48).symm.trans h
              refine lv_aload_n hx hb dX6_sheet_60 rfl (lv_at hl 0 rfl) ?_
              refine w_get (v := .ref (am 3)) C hinRX6 hI X.length wM_ob rfl 4 (by decide) lk16 rfl rfl dX6_sheet_61 ?_
              refine lv_iload_n hx hb dX6_sheet_64 rfl (lv_at hl 1 rfl) ?_
              refine lv_iload_n hx hb dX6_sheet_65 rfl (lv_at hl 2 rfl) ?_
              refine w_st C hI (X.length + (2 + 1)) (wM_ar (by decide)) (wM_setar (by decide)) h dX6_sheet_66 (fun st_49 H locs h hI => ?_)
              refine lv_aload_n hx hb dX6_sheet_67 rfl (lv_at hl 0 rfl) ?_
              refine w_get (v := .ref (am 4)) C hinRX6 hI X.length wM_ob rfl 5 (by decide) lk19 rfl rfl dX6_sheet_68 ?_
              refine lv_iload_n hx hb dX6_sheet_71 rfl (lv_at hl 1 rfl) ?_
              refine lv_iload_n hx hb dX6_sheet_72 rfl (lv_at hl 2 rfl) ?_
              refine lv_if_ne (tgt := 80) hx hb dX6_sheet_73 (by decide) (fun c_50 => ?_) (fun c_50 => ?_)
              · replace h := (if_neg c_50).symm.trans h
                refine lv_iload_n hx hb dX6_sheet_80 rfl (lv_at hl 3 rfl) ?_
                refine w_st C hI (X.length + (3 + 1)) (wM_ar (by decide)) (wM_setar (by decide)) h dX6_sheet_81 (fun st_51 H locs h hI => ?_)
                refine lv_iconst (v := 0) hx hb dX6_sheet_82 (by decide) ?_
                refine lv_istore (lv' := [(4, .int 0), (0, .ref (am 0)), (1, .int x1), (2, .int x2), (3, .int x3)]) hx hb dX6_sheet_83 hl (by decide) rfl (fun ls hl => ?_)
                refine wl_X6_sheet_L85 C hret N x1 _ (fun a_52 st_53 H locs ls h hI hl => ?_) N 0 st_51 H locs ls h hI (lv_sub hl [1, 2, 0] rfl)
                refine lv_aload_n hx hb dX6_sheet_111 rfl (lv_at hl 0 rfl) ?_
                refine w_get (v := .ref (am 4)) C hinRX6 hI X.length wM_ob rfl 5 (by decide) lk19 rfl rfl dX6_sheet_112 ?_
                refine lv_iload_n hx hb dX6_sheet_115 rfl (lv_at hl 1 rfl) ?_
                refine w_ld C hI (X.length + (3 + 1)) (wM_ar (by decide)) h dX6_sheet_116 (fun j_54 hj_54 h => ?_)
                obtain ⟨rfl, rfl⟩ := ret2 h
                exact hret H locs _ ls hI dX6_sheet_117
              · replace h := (if_pos c_50).symm.trans h
                refine lv_iconst (v := 0) hx hb dX6_sheet_76 (by decide) ?_
                refine lv_goto (tgt := 81) hx hb dX6_sheet_77 (by decide) ?_
                refine w_st C hI (X.length + (3 + 1)) (wM_ar (by decide)) (wM_setar (by decide)) h dX6_sheet_81 (fun st_55 H locs h hI => ?_)
                refine lv_iconst (v := 0) hx hb dX6_sheet_82 (by decide) ?_
                refine lv_istore (lv' := [(4, .int 0), (0, .ref (am 0)), (1, .int x1), (2, .int x2), (3, .int x3)]) hx hb dX6_sheet_83 hl (by decide) rfl (fun ls hl => ?_)
                refine wl_X6_sheet_L85 C hret N x1 _ (fun a_56 st_57 H locs ls h hI hl => ?_) N 0 st_55 H locs ls h hI (lv_sub hl [1, 2, 0] rfl)
                refine lv_aload_n hx hb dX6_sheet_111 rfl (lv_at hl 0 rfl) ?_
                refine w_get (v := .ref (am 4)) C hinRX6 hI X.length wM_ob rfl 5 (by decide) lk19 rfl rfl dX6_sheet_112 ?_
                refine lv_iload_n hx hb dX6_sheet_115 rfl (lv_at hl 1 rfl) ?_
                refine w_ld C hI (X.length + (3 + 1)) (wM_ar (by decide)) h dX6_sheet_116 (fun j_58 hj_58 h => ?_)
                obtain ⟨rfl, rfl⟩ := ret2 h
                exact hret H locs _ ls hI dX6_sheet_117
            · replace h := (if_neg c_48).symm.trans h
              refine lv_aload_n hx hb dX6_sheet_53 rfl (lv_at hl 0 rfl) ?_
              refine lv_ldc (v := (-100001)) hx hb hown lc48 dX6_sheet_54 ?_
              obtain ⟨r_60, st_61, hr_59, h⟩ := bd2_some h
              refine callV_I (rest := []) C hI (c_X6_finding l g X am (-100001 : Int32) st hr_59) (cwV 1 hts gX6_sheet_X6_finding rfl rfl rfl hv_X6_finding ⟨Nat.le_of_ble_eq_true rfl, Nat.le_of_ble_eq_true rfl⟩) (w_recv C hI X.length wM_ob rfl) rfl hl.1 rfl (Nat.le_of_ble_eq_true rfl) dX6_sheet_56 (fun H locs hI => ?_)
              obtain ⟨rfl, rfl⟩ := ret2 h
              exact hret H locs _ ls hI dX6_sheet_59
          · replace h := (if_neg c_47).symm.trans h
            refine lv_aload_n hx hb dX6_sheet_40 rfl (lv_at hl 0 rfl) ?_
            refine lv_ldc (v := (-100003)) hx hb hown lc72 dX6_sheet_41 ?_
            obtain ⟨r_63, st_64, hr_62, h⟩ := bd2_some h
            refine callV_I (rest := []) C hI (c_X6_finding l g X am (-100003 : Int32) st hr_62) (cwV 1 hts gX6_sheet_X6_finding rfl rfl rfl hv_X6_finding ⟨Nat.le_of_ble_eq_true rfl, Nat.le_of_ble_eq_true rfl⟩) (w_recv C hI X.length wM_ob rfl) rfl hl.1 rfl (Nat.le_of_ble_eq_true rfl) dX6_sheet_43 (fun H locs hI => ?_)
            obtain ⟨rfl, rfl⟩ := ret2 h
            exact hret H locs _ ls hI dX6_sheet_46
        · replace h := (if_neg c_46).symm.trans h
          refine lv_iload_n hx hb dX6_sheet_23 rfl (lv_at hl 2 rfl) ?_
          refine lv_bipush (v := 32) hx hb dX6_sheet_24 (by decide) ?_
          refine lv_icmp_eq (tgt := 36) hx hb dX6_sheet_26 (by decide) (fun c_65 => ?_) (fun c_65 => ?_)
          · replace h := (if_pos c_65).symm.trans h
            refine lv_iload_n hx hb dX6_sheet_36 rfl (lv_at hl 3 rfl) ?_
            refine lv_if_ge (tgt := 47) hx hb dX6_sheet_37 (by decide) (fun c_66 => ?_) (fun c_66 => ?_)
            · replace h := (if_pos c_66).symm.trans h
              refine lv_iload_n hx hb dX6_sheet_47 rfl (lv_at hl 3 rfl) ?_
              refine lv_bipush (v := 12) hx hb dX6_sheet_48 (by decide) ?_
              refine lv_icmp_le (tgt := 60) hx hb dX6_sheet_50 (by decide) (fun c_67 => ?_) (fun c_67 => ?_)
              · replace h := (if_pos c_67).symm.trans h
                refine lv_aload_n hx hb dX6_sheet_60 rfl (lv_at hl 0 rfl) ?_
                refine w_get (v := .ref (am 3)) C hinRX6 hI X.length wM_ob rfl 4 (by decide) lk16 rfl rfl dX6_sheet_61 ?_
                refine lv_iload_n hx hb dX6_sheet_64 rfl (lv_at hl 1 rfl) ?_
                refine lv_iload_n hx hb dX6_sheet_65 rfl (lv_at hl 2 rfl) ?_
                refine w_st C hI (X.length + (2 + 1)) (wM_ar (by decide)) (wM_setar (by decide)) h dX6_sheet_66 (fun st_68 H locs h hI => ?_)
                refine lv_aload_n hx hb dX6_sheet_67 rfl (lv_at hl 0 rfl) ?_
                refine w_get (v := .ref (am 4)) C hinRX6 hI X.length wM_ob rfl 5 (by decide) lk19 rfl rfl dX6_sheet_68 ?_
                refine lv_iload_n hx hb dX6_sheet_71 rfl (lv_at hl 1 rfl) ?_
                refine lv_iload_n hx hb dX6_sheet_72 rfl (lv_at hl 2 rfl) ?_
                refine lv_if_ne (tgt := 80) hx hb dX6_sheet_73 (by decide) (fun c_69 => ?_) (fun c_69 => ?_)
                · replace h := (if_neg c_69).symm.trans h
                  refine lv_iload_n hx hb dX6_sheet_80 rfl (lv_at hl 3 rfl) ?_
                  refine w_st C hI (X.length + (3 + 1)) (wM_ar (by decide)) (wM_setar (by decide)) h dX6_sheet_81 (fun st_70 H locs h hI => ?_)
                  refine lv_iconst (v := 0) hx hb dX6_sheet_82 (by decide) ?_
                  refine lv_istore (lv' := [(4, .int 0), (0, .ref (am 0)), (1, .int x1), (2, .int x2), (3, .int x3)]) hx hb dX6_sheet_83 hl (by decide) rfl (fun ls hl => ?_)
                  refine wl_X6_sheet_L85 C hret N x1 _ (fun a_71 st_72 H locs ls h hI hl => ?_) N 0 st_70 H locs ls h hI (lv_sub hl [1, 2, 0] rfl)
                  refine lv_aload_n hx hb dX6_sheet_111 rfl (lv_at hl 0 rfl) ?_
                  refine w_get (v := .ref (am 4)) C hinRX6 hI X.length wM_ob rfl 5 (by decide) lk19 rfl rfl dX6_sheet_112 ?_
                  refine lv_iload_n hx hb dX6_sheet_115 rfl (lv_at hl 1 rfl) ?_
                  refine w_ld C hI (X.length + (3 + 1)) (wM_ar (by decide)) h dX6_sheet_116 (fun j_73 hj_73 h => ?_)
                  obtain ⟨rfl, rfl⟩ := ret2 h
                  exact hret H locs _ ls hI dX6_sheet_117
                · replace h := (if_pos c_69).symm.trans h
                  refine lv_iconst (v := 0) hx hb dX6_sheet_76 (by decide) ?_
                  refine lv_goto (tgt := 81) hx hb dX6_sheet_77 (by decide) ?_
                  refine w_st C hI (X.length + (3 + 1)) (wM_ar (by decide)) (wM_setar (by decide)) h dX6_sheet_81 (fun st_74 H locs h hI => ?_)
                  refine lv_iconst (v := 0) hx hb dX6_sheet_82 (by decide) ?_
                  refine lv_istore (lv' := [(4, .int 0), (0, .ref (am 0)), (1, .int x1), (2, .int x2), (3, .int x3)]) hx hb dX6_sheet_83 hl (by decide) rfl (fun ls hl => ?_)
                  refine wl_X6_sheet_L85 C hret N x1 _ (fun a_75 st_76 H locs ls h hI hl => ?_) N 0 st_74 H locs ls h hI (lv_sub hl [1, 2, 0] rfl)
                  refine lv_aload_n hx hb dX6_sheet_111 rfl (lv_at hl 0 rfl) ?_
                  refine w_get (v := .ref (am 4)) C hinRX6 hI X.length wM_ob rfl 5 (by decide) lk19 rfl rfl dX6_sheet_112 ?_
                  refine lv_iload_n hx hb dX6_sheet_115 rfl (lv_at hl 1 rfl) ?_
                  refine w_ld C hI (X.length + (3 + 1)) (wM_ar (by decide)) h dX6_sheet_116 (fun j_77 hj_77 h => ?_)
                  obtain ⟨rfl, rfl⟩ := ret2 h
                  exact hret H locs _ ls hI dX6_sheet_117
              · replace h := (if_neg c_67).symm.trans h
                refine lv_aload_n hx hb dX6_sheet_53 rfl (lv_at hl 0 rfl) ?_
                refine lv_ldc (v := (-100001)) hx hb hown lc48 dX6_sheet_54 ?_
                obtain ⟨r_79, st_80, hr_78, h⟩ := bd2_some h
                refine callV_I (rest := []) C hI (c_X6_finding l g X am (-100001 : Int32) st hr_78) (cwV 1 hts gX6_sheet_X6_finding rfl rfl rfl hv_X6_finding ⟨Nat.le_of_ble_eq_true rfl, Nat.le_of_ble_eq_true rfl⟩) (w_recv C hI X.length wM_ob rfl) rfl hl.1 rfl (Nat.le_of_ble_eq_true rfl) dX6_sheet_56 (fun H locs hI => ?_)
                obtain ⟨rfl, rfl⟩ := ret2 h
                exact hret H locs _ ls hI dX6_sheet_59
            · replace h := (if_neg c_66).symm.trans h
              refine lv_aload_n hx hb dX6_sheet_40 rfl (lv_at hl 0 rfl) ?_
              refine lv_ldc (v := (-100003)) hx hb hown lc72 dX6_sheet_41 ?_
              obtain ⟨r_82, st_83, hr_81, h⟩ := bd2_some h
              refine callV_I (rest := []) C hI (c_X6_finding l g X am (-100003 : Int32) st hr_81) (cwV 1 hts gX6_sheet_X6_finding rfl rfl rfl hv_X6_finding ⟨Nat.le_of_ble_eq_true rfl, Nat.le_of_ble_eq_true rfl⟩) (w_recv C hI X.length wM_ob rfl) rfl hl.1 rfl (Nat.le_of_ble_eq_true rfl) dX6_sheet_43 (fun H locs hI => ?_)
              obtain ⟨rfl, rfl⟩ := ret2 h
              exact hret H locs _ ls hI dX6_sheet_46
          · replace h := (if_neg c_65).symm.trans h
            refine lv_aload_n hx hb dX6_sheet_29 rfl (lv_at hl 0 rfl) ?_
            refine lv_ldc (v := (-100001)) hx hb hown lc48 dX6_sheet_30 ?_
            obtain ⟨r_85, st_86, hr_84, h⟩ := bd2_some h
            refine callV_I (rest := []) C hI (c_X6_finding l g X am (-100001 : Int32) st hr_84) (cwV 1 hts gX6_sheet_X6_finding rfl rfl rfl hv_X6_finding ⟨Nat.le_of_ble_eq_true rfl, Nat.le_of_ble_eq_true rfl⟩) (w_recv C hI X.length wM_ob rfl) rfl hl.1 rfl (Nat.le_of_ble_eq_true rfl) dX6_sheet_32 (fun H locs hI => ?_)
            obtain ⟨rfl, rfl⟩ := ret2 h
            exact hret H locs _ ls hI dX6_sheet_35
theorem hv_X6_sheet : yX6_sheet.cls = RX6 ∧ yX6_sheet.cls ≠ "java/lang/invoke/MethodHandle" ∧ yX6_sheet.cls ≠ "java/lang/invoke/VarHandle" ∧ (parseMethodDescriptor yX6_sheet.desc).map (fun d => d.parameters.length) = some 3 := by decide +kernel
/-! X6_put -/
def rmX6_put : Room := { frames := 2, cells := 0, slots := 0, locals := 42 }
def f_X6_put (st : St) (x1 : Int32) (x2 : Int32) (x3 : Int32) : Option (Int32 × St) := bnd (f_X6_isSheet x1) fun r_1 => if b2i r_1 = 0 then bd2 (f_X6_finding st (-100001 : Int32)) fun r_22 st_23 => some (r_22, st_23) else ck 4 x1 fun j_3 => if st 2 j_3 = 0 then bd2 (f_X6_finding st (-100002 : Int32)) fun r_19 st_20 => some (r_19, st_20) else ck 4 x1 fun j_5 => bnd (f_X6_within x2 0 ((st 3 j_5) - 1)) fun r_6 => if b2i r_6 = 0 then bd2 (f_X6_finding st (-100001 : Int32)) fun r_16 st_17 => some (r_16, st_17) else ck 4 x1 fun j_8 => if st 2 j_8 = 8 then sto 48 st 4 ((12 * x1) + x2) (x3 &&& (255 : Int32)) fun st_14 => some (0, st_14) else ck 4 x1 fun j_10 => if st 2 j_10 = 16 then sto 48 st 4 ((12 * x1) + x2) (x3 &&& (65535 : Int32)) fun st_13 => some (0, st_13) else sto 48 st 4 ((12 * x1) + x2) x3 fun st_12 => some (0, st_12)
set_option maxHeartbeats 4000000 in
set_option maxRecDepth 100000 in
theorem c_X6_put (l : Launch) (g : GP) (X : va_W) (am : Nat → Nat) (x1 : Int32) (x2 : Int32) (x3 : Int32)  (st : St) {r : Int32} {st' : St} (h : f_X6_put st x1 x2 x3 = some (r, st')) : MetI l yX6_put wsX6_put rmX6_put g (wMX g X am) [.ref (am 0), .int x1, .int x2, .int x3] st (r) st' := by
  refine metI_of (cc := cX6_put) (nL := 4) (ty := .int) (by decide) rfl (Nat.le_of_ble_eq_true rfl) rfl ?_
  intro p e s m below meth c Q A C hret H locs hI ls hl
  have C : Cx p s m _ c cX6_put 4 wsX6_put RX6 g A := C
  obtain ⟨hx, hb, hml, hown, hts⟩ := id C.1
  have hl : lv_has ls 4 [(0, .ref (am 0)), (1, .int x1), (2, .int x2), (3, .int x3)] := hl
  have hinRX6 : ∀ w ∈ u_ws RX6 TX6 16, w ∈ wsX6_put := by decide +kernel
  have lk16 := hts (.fieldLink RX6 16 "GraveRowsModel" "bits" "[I") (by decide +kernel)
  have lk19 := hts (.fieldLink RX6 19 "GraveRowsModel" "sizes" "[I") (by decide +kernel)
  have lk22 := hts (.fieldLink RX6 22 "GraveRowsModel" "sheets" "[I") (by decide +kernel)
  have lc88 := hts (.constant RX6 88 (65535)) (by decide +kernel)
  have lc48 := hts (.constant RX6 48 (-100001)) (by decide +kernel)
  have lc87 := hts (.constant RX6 87 (-100002)) (by decide +kernel)
  rw [f_X6_put] at h
  refine lv_iload_n hx hb dX6_put_0 rfl (lv_at hl 1 rfl) ?_
  refine callS_S (rest := []) C.1 (c_X6_isSheet l x1) (va_cwS 1 hts gX6_put_X6_isSheet rfl rfl rfl hd_X6_isSheet ⟨Nat.le_of_ble_eq_true rfl, Nat.le_of_ble_eq_true rfl⟩) rfl hl.1 rfl (Nat.le_of_ble_eq_true rfl) dX6_put_1 ?_
  refine gen_b h (fun r_1 h => ?_)
  refine lv_if_ne (tgt := 14) hx hb dX6_put_4 (by decide) (fun c_2 => ?_) (fun c_2 => ?_)
  · replace h := (if_neg c_2).symm.trans h
    refine lv_aload_n hx hb dX6_put_14 rfl (lv_at hl 0 rfl) ?_
    refine w_get (v := .ref (am 3)) C hinRX6 hI X.length wM_ob rfl 4 (by decide) lk16 rfl rfl dX6_put_15 ?_
    refine lv_iload_n hx hb dX6_put_18 rfl (lv_at hl 1 rfl) ?_
    refine w_ld C hI (X.length + (2 + 1)) (wM_ar (by decide)) h dX6_put_19 (fun j_3 hj_3 h => ?_)
    refine lv_if_ne (tgt := 30) hx hb dX6_put_20 (by decide) (fun c_4 => ?_) (fun c_4 => ?_)
    · replace h := (if_neg c_4).symm.trans h
      refine lv_iload_n hx hb dX6_put_30 rfl (lv_at hl 2 rfl) ?_
      refine lv_iconst (v := 0) hx hb dX6_put_31 (by decide) ?_
      refine lv_aload_n hx hb dX6_put_32 rfl (lv_at hl 0 rfl) ?_
      refine w_get (v := .ref (am 4)) C hinRX6 hI X.length wM_ob rfl 5 (by decide) lk19 rfl rfl dX6_put_33 ?_
      refine lv_iload_n hx hb dX6_put_36 rfl (lv_at hl 1 rfl) ?_
      refine w_ld C hI (X.length + (3 + 1)) (wM_ar (by decide)) h dX6_put_37 (fun j_5 hj_5 h => ?_)
      refine lv_iconst (v := 1) hx hb dX6_put_38 (by decide) ?_
      refine lv_isub hx hb dX6_put_39 ?_
      refine callS_S (rest := []) C.1 (c_X6_within l x2 0 ((st 3 j_5) - 1)) (va_cwS 3 hts gX6_put_X6_within rfl rfl rfl hd_X6_within ⟨Nat.le_of_ble_eq_true rfl, Nat.le_of_ble_eq_true rfl⟩) rfl hl.1 rfl (Nat.le_of_ble_eq_true rfl) dX6_put_40 ?_
      refine gen_b h (fun r_6 h => ?_)
      refine lv_if_ne (tgt := 53) hx hb dX6_put_43 (by decide) (fun c_7 => ?_) (fun c_7 => ?_)
      · replace h := (if_neg c_7).symm.trans h
        refine lv_aload_n hx hb dX6_put_53 rfl (lv_at hl 0 rfl) ?_
        refine w_get (v := .ref (am 5)) C hinRX6 hI X.length wM_ob rfl 6 (by decide) lk22 rfl rfl dX6_put_54 ?_
        refine lv_bipush (v := 12) hx hb dX6_put_57 (by decide) ?_
        refine lv_iload_n hx hb dX6_put_59 rfl (lv_at hl 1 rfl) ?_
        refine lv_imul hx hb dX6_put_60 ?_
        refine lv_iload_n hx hb dX6_put_61 rfl (lv_at hl 2 rfl) ?_
        refine lv_iadd hx hb dX6_put_62 ?_
        refine lv_aload_n hx hb dX6_put_63 rfl (lv_at hl 0 rfl) ?_
        refine w_get (v := .ref (am 3)) C hinRX6 hI X.length wM_ob rfl 4 (by decide) lk16 rfl rfl dX6_put_64 ?_
        refine lv_iload_n hx hb dX6_put_67 rfl (lv_at hl 1 rfl) ?_
        refine w_ld C hI (X.length + (2 + 1)) (wM_ar (by decide)) h dX6_put_68 (fun j_8 hj_8 h => ?_)
        refine lv_bipush (v := 8) hx hb dX6_put_69 (by decide) ?_
        refine lv_icmp_ne (tgt := 82) hx hb dX6_put_71 (by decide) (fun c_9 => ?_) (fun c_9 => ?_)
        · replace h := (if_neg c_9).symm.trans h
          refine lv_aload_n hx hb dX6_put_82 rfl (lv_at hl 0 rfl) ?_
          refine w_get (v := .ref (am 3)) C hinRX6 hI X.length wM_ob rfl 4 (by decide) lk16 rfl rfl dX6_put_83 ?_
          refine lv_iload_n hx hb dX6_put_86 rfl (lv_at hl 1 rfl) ?_
          refine w_ld C hI (X.length + (2 + 1)) (wM_ar (by decide)) h dX6_put_87 (fun j_10 hj_10 h => ?_)
          refine lv_bipush (v := 16) hx hb dX6_put_88 (by decide) ?_
          refine lv_icmp_ne (tgt := 100) hx hb dX6_put_90 (by decide) (fun c_11 => ?_) (fun c_11 => ?_)
          · replace h := (if_neg c_11).symm.trans h
            refine lv_iload_n hx hb dX6_put_100 rfl (lv_at hl 3 rfl) ?_
            refine w_st C hI (X.length + (4 + 1)) (wM_ar (by decide)) (wM_setar (by decide)) h dX6_put_101 (fun st_12 H locs h hI => ?_)
            refine lv_iconst (v := 0) hx hb dX6_put_102 (by decide) ?_
            obtain ⟨rfl, rfl⟩ := ret2 h
            exact hret H locs _ ls hI dX6_put_103
          · replace h := (if_pos c_11).symm.trans h
            refine lv_iload_n hx hb dX6_put_93 rfl (lv_at hl 3 rfl) ?_
            refine lv_ldc (v := 65535) hx hb hown lc88 dX6_put_94 ?_
            refine lv_iand hx hb dX6_put_96 ?_
            refine lv_goto (tgt := 101) hx hb dX6_put_97 (by decide) ?_
            refine w_st C hI (X.length + (4 + 1)) (wM_ar (by decide)) (wM_setar (by decide)) h dX6_put_101 (fun st_13 H locs h hI => ?_)
            refine lv_iconst (v := 0) hx hb dX6_put_102 (by decide) ?_
            obtain ⟨rfl, rfl⟩ := ret2 h
            exact hret H locs _ ls hI dX6_put_103
        · replace h := (if_pos c_9).symm.trans h
          refine lv_iload_n hx hb dX6_put_74 rfl (lv_at hl 3 rfl) ?_
          refine lv_sipush (v := 255) hx hb dX6_put_75 (by decide) ?_
          refine lv_iand hx hb dX6_put_78 ?_
          refine lv_goto (tgt := 101) hx hb dX6_put_79 (by decide) ?_
          refine w_st C hI (X.length + (4 + 1)) (wM_ar (by decide)) (wM_setar (by decide)) h dX6_put_101 (fun st_14 H locs h hI => ?_)
          refine lv_iconst (v := 0) hx hb dX6_put_102 (by decide) ?_
          obtain ⟨rfl, rfl⟩ := ret2 h
          exact hret H locs _ ls hI dX6_put_103
      · replace h := (if_pos c_7).symm.trans h
        refine lv_aload_n hx hb dX6_put_46 rfl (lv_at hl 0 rfl) ?_
        refine lv_ldc (v := (-100001)) hx hb hown lc48 dX6_put_47 ?_
        obtain ⟨r_16, st_17, hr_15, h⟩ := bd2_some h
        refine callV_I (rest := []) C hI (c_X6_finding l g X am (-100001 : Int32) st hr_15) (cwV 1 hts gX6_put_X6_finding rfl rfl rfl hv_X6_finding ⟨Nat.le_of_ble_eq_true rfl, Nat.le_of_ble_eq_true rfl⟩) (w_recv C hI X.length wM_ob rfl) rfl hl.1 rfl (Nat.le_of_ble_eq_true rfl) dX6_put_49 (fun H locs hI => ?_)
        obtain ⟨rfl, rfl⟩ := ret2 h
        exact hret H locs _ ls hI dX6_put_52
    · replace h := (if_pos c_4).symm.trans h
      refine lv_aload_n hx hb dX6_put_23 rfl (lv_at hl 0 rfl) ?_
      refine lv_ldc (v := (-100002)) hx hb hown lc87 dX6_put_24 ?_
      obtain ⟨r_19, st_20, hr_18, h⟩ := bd2_some h
      refine callV_I (rest := []) C hI (c_X6_finding l g X am (-100002 : Int32) st hr_18) (cwV 1 hts gX6_put_X6_finding rfl rfl rfl hv_X6_finding ⟨Nat.le_of_ble_eq_true rfl, Nat.le_of_ble_eq_true rfl⟩) (w_recv C hI X.length wM_ob rfl) rfl hl.1 rfl (Nat.le_of_ble_eq_true rfl) dX6_put_26 (fun H locs hI => ?_)
      obtain ⟨rfl, rfl⟩ := ret2 h
      exact hret H locs _ ls hI dX6_put_29
  · replace h := (if_pos c_2).symm.trans h
    refine lv_aload_n hx hb dX6_put_7 rfl (lv_at hl 0 rfl) ?_
    refine lv_ldc (v := (-100001)) hx hb hown lc48 dX6_put_8 ?_
    obtain ⟨r_22, st_23, hr_21, h⟩ := bd2_some h
    refine callV_I (rest := []) C hI (c_X6_finding l g X am (-100001 : Int32) st hr_21) (cwV 1 hts gX6_put_X6_finding rfl rfl rfl hv_X6_finding ⟨Nat.le_of_ble_eq_true rfl, Nat.le_of_ble_eq_true rfl⟩) (w_recv C hI X.length wM_ob rfl) rfl hl.1 rfl (Nat.le_of_ble_eq_true rfl) dX6_put_10 (fun H locs hI => ?_)
    obtain ⟨rfl, rfl⟩ := ret2 h
    exact hret H locs _ ls hI dX6_put_13
theorem hv_X6_put : yX6_put.cls = RX6 ∧ yX6_put.cls ≠ "java/lang/invoke/MethodHandle" ∧ yX6_put.cls ≠ "java/lang/invoke/VarHandle" ∧ (parseMethodDescriptor yX6_put.desc).map (fun d => d.parameters.length) = some 3 := by decide +kernel
/-! X6_copy -/
def rmX6_copy : Room := { frames := 2, cells := 0, slots := 0, locals := 42 }
def f_X6_copy_L127 (N : Nat) (x1 : Int32) (x2 : Int32) (x3 : Int32) (x4 : Int32) (x5 : Int32) (k : Int32 → St → Option (Int32 × St)) : Nat → Int32 → St → Option (Int32 × St)
  | 0, _, _ => none
  | n + 1, x6, st => if x5 ≤ x6 then k x6 st else ck 48 (((12 * x1) + x2) + x6) fun j_38 => sto 12 st 5 x6 (st 4 j_38) fun st_39 => f_X6_copy_L127 N x1 x2 x3 x4 x5 k n (x6 + 1) st_39
def f_X6_copy_L164 (N : Nat) (x3 : Int32) (x4 : Int32) (x5 : Int32) (k : Int32 → St → Option (Int32 × St)) : Nat → Int32 → St → Option (Int32 × St)
  | 0, _, _ => none
  | n + 1, x6, st => if x5 ≤ x6 then k x6 st else ck 12 x6 fun j_43 => sto 48 st 4 (((12 * x3) + x4) + x6) (st 5 j_43) fun st_44 => f_X6_copy_L164 N x3 x4 x5 k n (x6 + 1) st_44
def f_X6_copy (N : Nat) (st : St) (x1 : Int32) (x2 : Int32) (x3 : Int32) (x4 : Int32) (x5 : Int32) : Option (Int32 × St) := bnd (f_X6_isSheet x1) fun r_1 => if b2i r_1 = 0 then bd2 (f_X6_finding st (-100001 : Int32)) fun r_4 st_5 => some (r_4, st_5) else bnd (f_X6_isSheet x3) fun r_6 => if b2i r_6 = 0 then bd2 (f_X6_finding st (-100001 : Int32)) fun r_57 st_58 => some (r_57, st_58) else ck 4 x1 fun j_8 => if st 2 j_8 = 0 then bd2 (f_X6_finding st (-100002 : Int32)) fun r_11 st_12 => some (r_11, st_12) else ck 4 x3 fun j_13 => if st 2 j_13 = 0 then bd2 (f_X6_finding st (-100002 : Int32)) fun r_54 st_55 => some (r_54, st_55) else ck 4 x1 fun j_15 => ck 4 x3 fun j_16 => if st 2 j_15 = st 2 j_16 then if x2 < 0 then bd2 (f_X6_finding st (-100001 : Int32)) fun r_20 st_21 => some (r_20, st_21) else if x4 < 0 then bd2 (f_X6_finding st (-100001 : Int32)) fun r_24 st_25 => some (r_24, st_25) else if x5 < 0 then bd2 (f_X6_finding st (-100001 : Int32)) fun r_28 st_29 => some (r_28, st_29) else ck 4 x1 fun j_30 => if 0 < lg_cmp (x2.toInt64 + x5.toInt64) ((st 3 j_30).toInt64) then bd2 (f_X6_finding st (-100001 : Int32)) fun r_33 st_34 => some (r_33, st_34) else ck 4 x3 fun j_35 => if lg_cmp (x4.toInt64 + x5.toInt64) ((st 3 j_35).toInt64) ≤ 0 then f_X6_copy_L127 N x1 x2 x3 x4 x5 (fun a_40 st_41 => f_X6_copy_L164 N x3 x4 x5 (fun a_45 st_46 => some (x5, st_46)) N 0 st_41) N 0 st else bd2 (f_X6_finding st (-100001 : Int32)) fun r_48 st_49 => some (r_48, st_49) else bd2 (f_X6_finding st (-100004 : Int32)) fun r_51 st_52 => some (r_51, st_52)
set_option maxHeartbeats 4000000 in
set_option maxRecDepth 100000 in
theorem wl_X6_copy_L127 {p : Program} {l : Launch} {e : Env} {s : State} {m : MethodId} {args : Array Value} {below : List Frame} {meth : Method} {c : Code} {Q : State → Prop} {A : Nat → Prop} {g : GP} {X : va_W} {am : Nat → Nat} {r : Int32} {st' : St} (C : Cx p s m args c cX6_copy 7 wsX6_copy RX6 g A) (hret : RetI p l e rmX6_copy s m args below meth c Q cX6_copy g A (wMX g X am st') (r)) (N : Nat) (x1 : Int32) (x2 : Int32) (x3 : Int32) (x4 : Int32) (x5 : Int32)  (k : Int32 → St → Option (Int32 × St)) (hk : ∀ (x6 : Int32) (st : St) (H : Heap) (locs : List Loc) (ls : Array Slot), k x6 st = some (r, st') → IW g A s.heap (wMX g X am st) H locs → lv_has ls 7 [(0, .ref (am 0)), (1, .int x1), (2, .int x2), (3, .int x3), (4, .int x4), (5, .int x5), (6, .int x6)] → W p l e rmX6_copy s m args below meth c H locs 0 0 Q (F0 m 161 ls [])) : ∀ (n : Nat) (x6 : Int32) (st : St) (H : Heap) (locs : List Loc) (ls : Array Slot), f_X6_copy_L127 N x1 x2 x3 x4 x5 k n x6 st = some (r, st') → IW g A s.heap (wMX g X am st) H locs → lv_has ls 7 [(0, .ref (am 0)), (1, .int x1), (2, .int x2), (3, .int x3), (4, .int x4), (5, .int x5), (6, .int x6)] → W p l e rmX6_copy s m args below meth c H locs 0 0 Q (F0 m 127 ls []) := by
  obtain ⟨hx, hb, hml, hown, hts⟩ := id C.1
  have hinRX6 : ∀ w ∈ u_ws RX6 TX6 16, w ∈ wsX6_copy := by decide +kernel
  have lk25 := hts (.fieldLink RX6 25 "GraveRowsModel" "carried" "[I") (by decide +kernel)
  have lk22 := hts (.fieldLink RX6 22 "GraveRowsModel" "sheets" "[I") (by decide +kernel)
  intro n
  induction n with
  | zero =>
    intro x6 st H locs ls h hI hl
    rw [f_X6_copy_L127] at h
    cases h
  | succ n ih =>
    intro x6 st H locs ls h hI hl
    rw [f_X6_copy_L127] at h
    refine lv_iload hx hb dX6_copy_127 (lv_at hl 6 rfl) ?_
    refine lv_iload hx hb dX6_copy_129 (lv_at hl 5 rfl) ?_
    refine lv_icmp_ge (tgt := 161) hx hb dX6_copy_131 (by decide) (fun c_37 => ?_) (fun c_37 => ?_)
    · replace h := (if_pos c_37).symm.trans h
      exact hk _ _ _ _ _ h hI (lv_sub hl [0, 1, 2, 3, 4, 5, 6] rfl)
    · replace h := (if_neg c_37).symm.trans h
      refine lv_aload_n hx hb dX6_copy_134 rfl (lv_at hl 0 rfl) ?_
      refine w_get (v := .ref (am 6)) C hinRX6 hI X.length wM_ob rfl 7 (by decide) lk25 rfl rfl dX6_copy_135 ?_
      refine lv_iload hx hb dX6_copy_138 (lv_at hl 6 rfl) ?_
      refine lv_aload_n hx hb dX6_copy_140 rfl (lv_at hl 0 rfl) ?_
      refine w_get (v := .ref (am 5)) C hinRX6 hI X.length wM_ob rfl 6 (by decide) lk22 rfl rfl dX6_copy_141 ?_
      refine lv_bipush (v := 12) hx hb dX6_copy_144 (by decide) ?_
      refine lv_iload_n hx hb dX6_copy_146 rfl (lv_at hl 1 rfl) ?_
      refine lv_imul hx hb dX6_copy_147 ?_
      refine lv_iload_n hx hb dX6_copy_148 rfl (lv_at hl 2 rfl) ?_
      refine lv_iadd hx hb dX6_copy_149 ?_
      refine lv_iload hx hb dX6_copy_150 (lv_at hl 6 rfl) ?_
      refine lv_iadd hx hb dX6_copy_152 ?_
      refine w_ld C hI (X.length + (4 + 1)) (wM_ar (by decide)) h dX6_copy_153 (fun j_38 hj_38 h => ?_)
      refine w_st C hI (X.length + (5 + 1)) (wM_ar (by decide)) (wM_setar (by decide)) h dX6_copy_154 (fun st_39 H locs h hI => ?_)
      refine lv_iinc (v := x6 + 1) (lv' := [(6, .int (x6 + 1)), (0, .ref (am 0)), (1, .int x1), (2, .int x2), (3, .int x3), (4, .int x4), (5, .int x5)]) hx hb dX6_copy_155 hl (k := 6) rfl rfl (by decide) rfl (fun ls hl => ?_)
      refine lv_goto (tgt := 127) hx hb dX6_copy_158 (by decide) ?_
      exact ih _ _ _ _ _ h hI (lv_sub hl [1, 2, 3, 4, 5, 6, 0] rfl)
set_option maxHeartbeats 4000000 in
set_option maxRecDepth 100000 in
theorem wl_X6_copy_L164 {p : Program} {l : Launch} {e : Env} {s : State} {m : MethodId} {args : Array Value} {below : List Frame} {meth : Method} {c : Code} {Q : State → Prop} {A : Nat → Prop} {g : GP} {X : va_W} {am : Nat → Nat} {r : Int32} {st' : St} (C : Cx p s m args c cX6_copy 7 wsX6_copy RX6 g A) (hret : RetI p l e rmX6_copy s m args below meth c Q cX6_copy g A (wMX g X am st') (r)) (N : Nat) (x3 : Int32) (x4 : Int32) (x5 : Int32)  (k : Int32 → St → Option (Int32 × St)) (hk : ∀ (x6 : Int32) (st : St) (H : Heap) (locs : List Loc) (ls : Array Slot), k x6 st = some (r, st') → IW g A s.heap (wMX g X am st) H locs → lv_has ls 7 [(0, .ref (am 0)), (3, .int x3), (4, .int x4), (5, .int x5), (6, .int x6)] → W p l e rmX6_copy s m args below meth c H locs 0 0 Q (F0 m 199 ls [])) : ∀ (n : Nat) (x6 : Int32) (st : St) (H : Heap) (locs : List Loc) (ls : Array Slot), f_X6_copy_L164 N x3 x4 x5 k n x6 st = some (r, st') → IW g A s.heap (wMX g X am st) H locs → lv_has ls 7 [(0, .ref (am 0)), (3, .int x3), (4, .int x4), (5, .int x5), (6, .int x6)] → W p l e rmX6_copy s m args below meth c H locs 0 0 Q (F0 m 164 ls []) := by
  obtain ⟨hx, hb, hml, hown, hts⟩ := id C.1
  have hinRX6 : ∀ w ∈ u_ws RX6 TX6 16, w ∈ wsX6_copy := by decide +kernel
  have lk22 := hts (.fieldLink RX6 22 "GraveRowsModel" "sheets" "[I") (by decide +kernel)
  have lk25 := hts (.fieldLink RX6 25 "GraveRowsModel" "carried" "[I") (by decide +kernel)
  intro n
  induction n with
  | zero =>
    intro x6 st H locs ls h hI hl
    rw [f_X6_copy_L164] at h
    cases h
  | succ n ih =>
    intro x6 st H locs ls h hI hl
    rw [f_X6_copy_L164] at h
    refine lv_iload hx hb dX6_copy_164 (lv_at hl 4 rfl) ?_
    refine lv_iload hx hb dX6_copy_166 (lv_at hl 3 rfl) ?_
    refine lv_icmp_ge (tgt := 199) hx hb dX6_copy_168 (by decide) (fun c_42 => ?_) (fun c_42 => ?_)
    · replace h := (if_pos c_42).symm.trans h
      exact hk _ _ _ _ _ h hI (lv_sub hl [0, 1, 2, 3, 4] rfl)
    · replace h := (if_neg c_42).symm.trans h
      refine lv_aload_n hx hb dX6_copy_171 rfl (lv_at hl 0 rfl) ?_
      refine w_get (v := .ref (am 5)) C hinRX6 hI X.length wM_ob rfl 6 (by decide) lk22 rfl rfl dX6_copy_172 ?_
      refine lv_bipush (v := 12) hx hb dX6_copy_175 (by decide) ?_
      refine lv_iload_n hx hb dX6_copy_177 rfl (lv_at hl 1 rfl) ?_
      refine lv_imul hx hb dX6_copy_178 ?_
      refine lv_iload hx hb dX6_copy_179 (lv_at hl 2 rfl) ?_
      refine lv_iadd hx hb dX6_copy_181 ?_
      refine lv_iload hx hb dX6_copy_182 (lv_at hl 4 rfl) ?_
      refine lv_iadd hx hb dX6_copy_184 ?_
      refine lv_aload_n hx hb dX6_copy_185 rfl (lv_at hl 0 rfl) ?_
      refine w_get (v := .ref (am 6)) C hinRX6 hI X.length wM_ob rfl 7 (by decide) lk25 rfl rfl dX6_copy_186 ?_
      refine lv_iload hx hb dX6_copy_189 (lv_at hl 4 rfl) ?_
      refine w_ld C hI (X.length + (5 + 1)) (wM_ar (by decide)) h dX6_copy_191 (fun j_43 hj_43 h => ?_)
      refine w_st C hI (X.length + (4 + 1)) (wM_ar (by decide)) (wM_setar (by decide)) h dX6_copy_192 (fun st_44 H locs h hI => ?_)
      refine lv_iinc (v := x6 + 1) (lv' := [(6, .int (x6 + 1)), (0, .ref (am 0)), (3, .int x3), (4, .int x4), (5, .int x5)]) hx hb dX6_copy_193 hl (k := 4) rfl rfl (by decide) rfl (fun ls hl => ?_)
      refine lv_goto (tgt := 164) hx hb dX6_copy_196 (by decide) ?_
      exact ih _ _ _ _ _ h hI (lv_sub hl [1, 2, 3, 4, 0] rfl)
set_option maxHeartbeats 4000000 in
set_option maxRecDepth 100000 in
theorem c_X6_copy (l : Launch) (g : GP) (X : va_W) (am : Nat → Nat) (N : Nat) (x1 : Int32) (x2 : Int32) (x3 : Int32) (x4 : Int32) (x5 : Int32)  (st : St) {r : Int32} {st' : St} (h : f_X6_copy N st x1 x2 x3 x4 x5 = some (r, st')) : MetI l yX6_copy wsX6_copy rmX6_copy g (wMX g X am) [.ref (am 0), .int x1, .int x2, .int x3, .int x4, .int x5] st (r) st' := by
  refine metI_of (cc := cX6_copy) (nL := 7) (ty := .int) (by decide) rfl (Nat.le_of_ble_eq_true rfl) rfl ?_
  intro p e s m below meth c Q A C hret H locs hI ls hl
  have C : Cx p s m _ c cX6_copy 7 wsX6_copy RX6 g A := C
  obtain ⟨hx, hb, hml, hown, hts⟩ := id C.1
  have hl : lv_has ls 7 [(0, .ref (am 0)), (1, .int x1), (2, .int x2), (3, .int x3), (4, .int x4), (5, .int x5)] := hl
  have lc48 := hts (.constant RX6 48 (-100001)) (by decide +kernel)
  have hinRX6 : ∀ w ∈ u_ws RX6 TX6 16, w ∈ wsX6_copy := by decide +kernel
  have lk16 := hts (.fieldLink RX6 16 "GraveRowsModel" "bits" "[I") (by decide +kernel)
  have lc87 := hts (.constant RX6 87 (-100002)) (by decide +kernel)
  have lk19 := hts (.fieldLink RX6 19 "GraveRowsModel" "sizes" "[I") (by decide +kernel)
  have lc58 := hts (.constant RX6 58 (-100004)) (by decide +kernel)
  rw [f_X6_copy] at h
  refine lv_iload_n hx hb dX6_copy_0 rfl (lv_at hl 1 rfl) ?_
  refine callS_S (rest := []) C.1 (c_X6_isSheet l x1) (va_cwS 1 hts gX6_copy_X6_isSheet rfl rfl rfl hd_X6_isSheet ⟨Nat.le_of_ble_eq_true rfl, Nat.le_of_ble_eq_true rfl⟩) rfl hl.1 rfl (Nat.le_of_ble_eq_true rfl) dX6_copy_1 ?_
  refine gen_b h (fun r_1 h => ?_)
  refine lv_if_eq (tgt := 14) hx hb dX6_copy_4 (by decide) (fun c_2 => ?_) (fun c_2 => ?_)
  · replace h := (if_pos c_2).symm.trans h
    refine lv_aload_n hx hb dX6_copy_14 rfl (lv_at hl 0 rfl) ?_
    refine lv_ldc (v := (-100001)) hx hb hown lc48 dX6_copy_15 ?_
    obtain ⟨r_4, st_5, hr_3, h⟩ := bd2_some h
    refine callV_I (rest := []) C hI (c_X6_finding l g X am (-100001 : Int32) st hr_3) (cwV 1 hts gX6_copy_X6_finding rfl rfl rfl hv_X6_finding ⟨Nat.le_of_ble_eq_true rfl, Nat.le_of_ble_eq_true rfl⟩) (w_recv C hI X.length wM_ob rfl) rfl hl.1 rfl (Nat.le_of_ble_eq_true rfl) dX6_copy_17 (fun H locs hI => ?_)
    obtain ⟨rfl, rfl⟩ := ret2 h
    exact hret H locs _ ls hI dX6_copy_20
  · replace h := (if_neg c_2).symm.trans h
    refine lv_iload_n hx hb dX6_copy_7 rfl (lv_at hl 3 rfl) ?_
    refine callS_S (rest := []) C.1 (c_X6_isSheet l x3) (va_cwS 1 hts gX6_copy_X6_isSheet rfl rfl rfl hd_X6_isSheet ⟨Nat.le_of_ble_eq_true rfl, Nat.le_of_ble_eq_true rfl⟩) rfl hl.1 rfl (Nat.le_of_ble_eq_true rfl) dX6_copy_8 ?_
    refine gen_b h (fun r_6 h => ?_)
    refine lv_if_ne (tgt := 21) hx hb dX6_copy_11 (by decide) (fun c_7 => ?_) (fun c_7 => ?_)
    · replace h := (if_neg c_7).symm.trans h
      refine lv_aload_n hx hb dX6_copy_21 rfl (lv_at hl 0 rfl) ?_
      refine w_get (v := .ref (am 3)) C hinRX6 hI X.length wM_ob rfl 4 (by decide) lk16 rfl rfl dX6_copy_22 ?_
      refine lv_iload_n hx hb dX6_copy_25 rfl (lv_at hl 1 rfl) ?_
      refine w_ld C hI (X.length + (2 + 1)) (wM_ar (by decide)) h dX6_copy_26 (fun j_8 hj_8 h => ?_)
      refine lv_if_eq (tgt := 39) hx hb dX6_copy_27 (by decide) (fun c_9 => ?_) (fun c_9 => ?_)
      · replace h := (if_pos c_9).symm.trans h
        refine lv_aload_n hx hb dX6_copy_39 rfl (lv_at hl 0 rfl) ?_
        refine lv_ldc (v := (-100002)) hx hb hown lc87 dX6_copy_40 ?_
        obtain ⟨r_11, st_12, hr_10, h⟩ := bd2_some h
        refine callV_I (rest := []) C hI (c_X6_finding l g X am (-100002 : Int32) st hr_10) (cwV 1 hts gX6_copy_X6_finding rfl rfl rfl hv_X6_finding ⟨Nat.le_of_ble_eq_true rfl, Nat.le_of_ble_eq_true rfl⟩) (w_recv C hI X.length wM_ob rfl) rfl hl.1 rfl (Nat.le_of_ble_eq_true rfl) dX6_copy_42 (fun H locs hI => ?_)
        obtain ⟨rfl, rfl⟩ := ret2 h
        exact hret H locs _ ls hI dX6_copy_45
      · replace h := (if_neg c_9).symm.trans h
        refine lv_aload_n hx hb dX6_copy_30 rfl (lv_at hl 0 rfl) ?_
        refine w_get (v := .ref (am 3)) C hinRX6 hI X.length wM_ob rfl 4 (by decide) lk16 rfl rfl dX6_copy_31 ?_
        refine lv_iload_n hx hb dX6_copy_34 rfl (lv_at hl 3 rfl) ?_
        refine w_ld C hI (X.length + (2 + 1)) (wM_ar (by decide)) h dX6_copy_35 (fun j_13 hj_13 h => ?_)
        refine lv_if_ne (tgt := 46) hx hb dX6_copy_36 (by decide) (fun c_14 => ?_) (fun c_14 => ?_)
        · replace h := (if_neg c_14).symm.trans h
          refine lv_aload_n hx hb dX6_copy_46 rfl (lv_at hl 0 rfl) ?_
          refine w_get (v := .ref (am 3)) C hinRX6 hI X.length wM_ob rfl 4 (by decide) lk16 rfl rfl dX6_copy_47 ?_
          refine lv_iload_n hx hb dX6_copy_50 rfl (lv_at hl 1 rfl) ?_
          refine w_ld C hI (X.length + (2 + 1)) (wM_ar (by decide)) h dX6_copy_51 (fun j_15 hj_15 h => ?_)
          refine lv_aload_n hx hb dX6_copy_52 rfl (lv_at hl 0 rfl) ?_
          refine w_get (v := .ref (am 3)) C hinRX6 hI X.length wM_ob rfl 4 (by decide) lk16 rfl rfl dX6_copy_53 ?_
          refine lv_iload_n hx hb dX6_copy_56 rfl (lv_at hl 3 rfl) ?_
          refine w_ld C hI (X.length + (2 + 1)) (wM_ar (by decide)) h dX6_copy_57 (fun j_16 hj_16 h => ?_)
          refine lv_icmp_eq (tgt := 68) hx hb dX6_copy_58 (by decide) (fun c_17 => ?_) (fun c_17 => ?_)
          · replace h := (if_pos c_17).symm.trans h
            refine lv_iload_n hx hb dX6_copy_68 rfl (lv_at hl 2 rfl) ?_
            refine lv_if_lt (tgt := 117) hx hb dX6_copy_69 (by decide) (fun c_18 => ?_) (fun c_18 => ?_)
            · replace h := (if_pos c_18).symm.trans h
              refine lv_aload_n hx hb dX6_copy_117 rfl (lv_at hl 0 rfl) ?_
              refine lv_ldc (v := (-100001)) hx hb hown lc48 dX6_copy_118 ?_
              obtain ⟨r_20, st_21, hr_19, h⟩ := bd2_some h
              refine callV_I (rest := []) C hI (c_X6_finding l g X am (-100001 : Int32) st hr_19) (cwV 1 hts gX6_copy_X6_finding rfl rfl rfl hv_X6_finding ⟨Nat.le_of_ble_eq_true rfl, Nat.le_of_ble_eq_true rfl⟩) (w_recv C hI X.length wM_ob rfl) rfl hl.1 rfl (Nat.le_of_ble_eq_true rfl) dX6_copy_120 (fun H locs hI => ?_)
              obtain ⟨rfl, rfl⟩ := ret2 h
              exact hret H locs _ ls hI dX6_copy_123
            · replace h := (if_neg c_18).symm.trans h
              refine lv_iload hx hb dX6_copy_72 (lv_at hl 4 rfl) ?_
              refine lv_if_lt (tgt := 117) hx hb dX6_copy_74 (by decide) (fun c_22 => ?_) (fun c_22 => ?_)
              · replace h := (if_pos c_22).symm.trans h
                refine lv_aload_n hx hb dX6_copy_117 rfl (lv_at hl 0 rfl) ?_
                refine lv_ldc (v := (-100001)) hx hb hown lc48 dX6_copy_118 ?_
                obtain ⟨r_24, st_25, hr_23, h⟩ := bd2_some h
                refine callV_I (rest := []) C hI (c_X6_finding l g X am (-100001 : Int32) st hr_23) (cwV 1 hts gX6_copy_X6_finding rfl rfl rfl hv_X6_finding ⟨Nat.le_of_ble_eq_true rfl, Nat.le_of_ble_eq_true rfl⟩) (w_recv C hI X.length wM_ob rfl) rfl hl.1 rfl (Nat.le_of_ble_eq_true rfl) dX6_copy_120 (fun H locs hI => ?_)
                obtain ⟨rfl, rfl⟩ := ret2 h
                exact hret H locs _ ls hI dX6_copy_123
              · replace h := (if_neg c_22).symm.trans h
                refine lv_iload hx hb dX6_copy_77 (lv_at hl 5 rfl) ?_
                refine lv_if_lt (tgt := 117) hx hb dX6_copy_79 (by decide) (fun c_26 => ?_) (fun c_26 => ?_)
                · replace h := (if_pos c_26).symm.trans h
                  refine lv_aload_n hx hb dX6_copy_117 rfl (lv_at hl 0 rfl) ?_
                  refine lv_ldc (v := (-100001)) hx hb hown lc48 dX6_copy_118 ?_
                  obtain ⟨r_28, st_29, hr_27, h⟩ := bd2_some h
                  refine callV_I (rest := []) C hI (c_X6_finding l g X am (-100001 : Int32) st hr_27) (cwV 1 hts gX6_copy_X6_finding rfl rfl rfl hv_X6_finding ⟨Nat.le_of_ble_eq_true rfl, Nat.le_of_ble_eq_true rfl⟩) (w_recv C hI X.length wM_ob rfl) rfl hl.1 rfl (Nat.le_of_ble_eq_true rfl) dX6_copy_120 (fun H locs hI => ?_)
                  obtain ⟨rfl, rfl⟩ := ret2 h
                  exact hret H locs _ ls hI dX6_copy_123
                · replace h := (if_neg c_26).symm.trans h
                  refine lv_iload_n hx hb dX6_copy_82 rfl (lv_at hl 2 rfl) ?_
                  refine lv_i2l (v := x2.toInt64) hx hb dX6_copy_83 rfl ?_
                  refine lv_iload hx hb dX6_copy_84 (lv_at hl 5 rfl) ?_
                  refine lv_i2l (v := x5.toInt64) hx hb dX6_copy_86 rfl ?_
                  refine lv_ladd hx hb dX6_copy_87 ?_
                  refine lv_aload_n hx hb dX6_copy_88 rfl (lv_at hl 0 rfl) ?_
                  refine w_get (v := .ref (am 4)) C hinRX6 hI X.length wM_ob rfl 5 (by decide) lk19 rfl rfl dX6_copy_89 ?_
                  refine lv_iload_n hx hb dX6_copy_92 rfl (lv_at hl 1 rfl) ?_
                  refine w_ld C hI (X.length + (3 + 1)) (wM_ar (by decide)) h dX6_copy_93 (fun j_30 hj_30 h => ?_)
                  refine lv_i2l (v := (st 3 j_30).toInt64) hx hb dX6_copy_94 rfl ?_
                  refine W.lcmp hx hb dX6_copy_95 ?_
                  refine lv_if_gt (tgt := 117) hx hb dX6_copy_96 (by decide) (fun c_31 => ?_) (fun c_31 => ?_)
                  · replace h := (if_pos c_31).symm.trans h
                    refine lv_aload_n hx hb dX6_copy_117 rfl (lv_at hl 0 rfl) ?_
                    refine lv_ldc (v := (-100001)) hx hb hown lc48 dX6_copy_118 ?_
                    obtain ⟨r_33, st_34, hr_32, h⟩ := bd2_some h
                    refine callV_I (rest := []) C hI (c_X6_finding l g X am (-100001 : Int32) st hr_32) (cwV 1 hts gX6_copy_X6_finding rfl rfl rfl hv_X6_finding ⟨Nat.le_of_ble_eq_true rfl, Nat.le_of_ble_eq_true rfl⟩) (w_recv C hI X.length wM_ob rfl) rfl hl.1 rfl (Nat.le_of_ble_eq_true rfl) dX6_copy_120 (fun H locs hI => ?_)
                    obtain ⟨rfl, rfl⟩ := ret2 h
                    exact hret H locs _ ls hI dX6_copy_123
                  · replace h := (if_neg c_31).symm.trans h
                    refine lv_iload hx hb dX6_copy_99 (lv_at hl 4 rfl) ?_
                    refine lv_i2l (v := x4.toInt64) hx hb dX6_copy_101 rfl ?_
                    refine lv_iload hx hb dX6_copy_102 (lv_at hl 5 rfl) ?_
                    refine lv_i2l (v := x5.toInt64) hx hb dX6_copy_104 rfl ?_
                    refine lv_ladd hx hb dX6_copy_105 ?_
                    refine lv_aload_n hx hb dX6_copy_106 rfl (lv_at hl 0 rfl) ?_
                    refine w_get (v := .ref (am 4)) C hinRX6 hI X.length wM_ob rfl 5 (by decide) lk19 rfl rfl dX6_copy_107 ?_
                    refine lv_iload_n hx hb dX6_copy_110 rfl (lv_at hl 3 rfl) ?_
                    refine w_ld C hI (X.length + (3 + 1)) (wM_ar (by decide)) h dX6_copy_111 (fun j_35 hj_35 h => ?_)
                    refine lv_i2l (v := (st 3 j_35).toInt64) hx hb dX6_copy_112 rfl ?_
                    refine W.lcmp hx hb dX6_copy_113 ?_
                    refine lv_if_le (tgt := 124) hx hb dX6_copy_114 (by decide) (fun c_36 => ?_) (fun c_36 => ?_)
                    · replace h := (if_pos c_36).symm.trans h
                      refine lv_iconst (v := 0) hx hb dX6_copy_124 (by decide) ?_
                      refine lv_istore (lv' := [(6, .int 0), (0, .ref (am 0)), (1, .int x1), (2, .int x2), (3, .int x3), (4, .int x4), (5, .int x5)]) hx hb dX6_copy_125 hl (by decide) rfl (fun ls hl => ?_)
                      refine wl_X6_copy_L127 C hret N x1 x2 x3 x4 x5 _ (fun a_40 st_41 H locs ls h hI hl => ?_) N 0 st H locs ls h hI (lv_sub hl [1, 2, 3, 4, 5, 6, 0] rfl)
                      refine lv_iconst (v := 0) hx hb dX6_copy_161 (by decide) ?_
                      refine lv_istore (lv' := [(6, .int 0), (0, .ref (am 0)), (1, .int x1), (2, .int x2), (3, .int x3), (4, .int x4), (5, .int x5)]) hx hb dX6_copy_162 hl (by decide) rfl (fun ls hl => ?_)
                      refine wl_X6_copy_L164 C hret N x3 x4 x5 _ (fun a_45 st_46 H locs ls h hI hl => ?_) N 0 st_41 H locs ls h hI (lv_sub hl [1, 4, 5, 6, 0] rfl)
                      refine lv_iload hx hb dX6_copy_199 (lv_at hl 3 rfl) ?_
                      obtain ⟨rfl, rfl⟩ := ret2 h
                      exact hret H locs _ ls hI dX6_copy_201
                    · replace h := (if_neg c_36).symm.trans h
                      refine lv_aload_n hx hb dX6_copy_117 rfl (lv_at hl 0 rfl) ?_
                      refine lv_ldc (v := (-100001)) hx hb hown lc48 dX6_copy_118 ?_
                      obtain ⟨r_48, st_49, hr_47, h⟩ := bd2_some h
                      refine callV_I (rest := []) C hI (c_X6_finding l g X am (-100001 : Int32) st hr_47) (cwV 1 hts gX6_copy_X6_finding rfl rfl rfl hv_X6_finding ⟨Nat.le_of_ble_eq_true rfl, Nat.le_of_ble_eq_true rfl⟩) (w_recv C hI X.length wM_ob rfl) rfl hl.1 rfl (Nat.le_of_ble_eq_true rfl) dX6_copy_120 (fun H locs hI => ?_)
                      obtain ⟨rfl, rfl⟩ := ret2 h
                      exact hret H locs _ ls hI dX6_copy_123
          · replace h := (if_neg c_17).symm.trans h
            refine lv_aload_n hx hb dX6_copy_61 rfl (lv_at hl 0 rfl) ?_
            refine lv_ldc (v := (-100004)) hx hb hown lc58 dX6_copy_62 ?_
            obtain ⟨r_51, st_52, hr_50, h⟩ := bd2_some h
            refine callV_I (rest := []) C hI (c_X6_finding l g X am (-100004 : Int32) st hr_50) (cwV 1 hts gX6_copy_X6_finding rfl rfl rfl hv_X6_finding ⟨Nat.le_of_ble_eq_true rfl, Nat.le_of_ble_eq_true rfl⟩) (w_recv C hI X.length wM_ob rfl) rfl hl.1 rfl (Nat.le_of_ble_eq_true rfl) dX6_copy_64 (fun H locs hI => ?_)
            obtain ⟨rfl, rfl⟩ := ret2 h
            exact hret H locs _ ls hI dX6_copy_67
        · replace h := (if_pos c_14).symm.trans h
          refine lv_aload_n hx hb dX6_copy_39 rfl (lv_at hl 0 rfl) ?_
          refine lv_ldc (v := (-100002)) hx hb hown lc87 dX6_copy_40 ?_
          obtain ⟨r_54, st_55, hr_53, h⟩ := bd2_some h
          refine callV_I (rest := []) C hI (c_X6_finding l g X am (-100002 : Int32) st hr_53) (cwV 1 hts gX6_copy_X6_finding rfl rfl rfl hv_X6_finding ⟨Nat.le_of_ble_eq_true rfl, Nat.le_of_ble_eq_true rfl⟩) (w_recv C hI X.length wM_ob rfl) rfl hl.1 rfl (Nat.le_of_ble_eq_true rfl) dX6_copy_42 (fun H locs hI => ?_)
          obtain ⟨rfl, rfl⟩ := ret2 h
          exact hret H locs _ ls hI dX6_copy_45
    · replace h := (if_pos c_7).symm.trans h
      refine lv_aload_n hx hb dX6_copy_14 rfl (lv_at hl 0 rfl) ?_
      refine lv_ldc (v := (-100001)) hx hb hown lc48 dX6_copy_15 ?_
      obtain ⟨r_57, st_58, hr_56, h⟩ := bd2_some h
      refine callV_I (rest := []) C hI (c_X6_finding l g X am (-100001 : Int32) st hr_56) (cwV 1 hts gX6_copy_X6_finding rfl rfl rfl hv_X6_finding ⟨Nat.le_of_ble_eq_true rfl, Nat.le_of_ble_eq_true rfl⟩) (w_recv C hI X.length wM_ob rfl) rfl hl.1 rfl (Nat.le_of_ble_eq_true rfl) dX6_copy_17 (fun H locs hI => ?_)
      obtain ⟨rfl, rfl⟩ := ret2 h
      exact hret H locs _ ls hI dX6_copy_20
theorem hv_X6_copy : yX6_copy.cls = RX6 ∧ yX6_copy.cls ≠ "java/lang/invoke/MethodHandle" ∧ yX6_copy.cls ≠ "java/lang/invoke/VarHandle" ∧ (parseMethodDescriptor yX6_copy.desc).map (fun d => d.parameters.length) = some 5 := by decide +kernel
/-! X6_read -/
def rmX6_read : Room := { frames := 2, cells := 0, slots := 0, locals := 43 }
def f_X6_read_L51 (N : Nat) (x1 : Int32) (x2 : Int32) (st : St) (k : Int32 → Int32 → Option (Int32 × St)) : Nat → Int32 → Int32 → Option (Int32 × St)
  | 0, _, _ => none
  | n + 1, x3, x4 => ck 4 x2 fun j_12 => if st 3 j_12 ≤ x4 then k x3 x4 else ck 48 ((12 * x2) + x4) fun j_14 => if st 4 j_14 = 0 then bnd (x3 &&& (((1 : Int32) <<< (x4 &&& 31)) ^^^ (-1 : Int32))) fun v_16 => f_X6_read_L51 N x1 x2 st k n v_16 (x4 + 1) else bnd (x3 ||| ((1 : Int32) <<< (x4 &&& 31))) fun v_17 => f_X6_read_L51 N x1 x2 st k n v_17 (x4 + 1)
def f_X6_read (N : Nat) (st : St) (x1 : Int32) (x2 : Int32) : Option (Int32 × St) := bnd (f_X6_isGrave st x1) fun r_1 => if b2i r_1 = 0 then bd2 (f_X6_finding st (-100001 : Int32)) fun r_4 st_5 => some (r_4, st_5) else bnd (f_X6_isSheet x2) fun r_6 => if b2i r_6 = 0 then bd2 (f_X6_finding st (-100001 : Int32)) fun r_27 st_28 => some (r_27, st_28) else ck 4 x2 fun j_8 => if st 2 j_8 = 0 then bd2 (f_X6_finding st (-100002 : Int32)) fun r_24 st_25 => some (r_24, st_25) else ck 116 (32 + x1) fun j_10 => bnd (st 0 j_10) fun v_11 => f_X6_read_L51 N x1 x2 st (fun a_18 a_19 => sto 116 st 0 (32 + x1) a_18 fun st_20 => bd1 (f_X6_many N a_18) fun r_22 => some (r_22, st_20)) N v_11 0
set_option maxHeartbeats 4000000 in
set_option maxRecDepth 100000 in
theorem wl_X6_read_L51 {p : Program} {l : Launch} {e : Env} {s : State} {m : MethodId} {args : Array Value} {below : List Frame} {meth : Method} {c : Code} {Q : State → Prop} {A : Nat → Prop} {g : GP} {X : va_W} {am : Nat → Nat} {r : Int32} {st' : St} (C : Cx p s m args c cX6_read 5 wsX6_read RX6 g A) (hret : RetI p l e rmX6_read s m args below meth c Q cX6_read g A (wMX g X am st') (r)) (N : Nat) (x1 : Int32) (x2 : Int32) (st : St)  (k : Int32 → Int32 → Option (Int32 × St)) (hk : ∀ (x3 : Int32) (x4 : Int32) (H : Heap) (locs : List Loc) (ls : Array Slot), k x3 x4 = some (r, st') → IW g A s.heap (wMX g X am st) H locs → lv_has ls 5 [(0, .ref (am 0)), (1, .int x1), (2, .int x2), (3, .int x3), (4, .int x4)] → W p l e rmX6_read s m args below meth c H locs 0 0 Q (F0 m 101 ls [])) : ∀ (n : Nat) (x3 : Int32) (x4 : Int32) (H : Heap) (locs : List Loc) (ls : Array Slot), f_X6_read_L51 N x1 x2 st k n x3 x4 = some (r, st') → IW g A s.heap (wMX g X am st) H locs → lv_has ls 5 [(0, .ref (am 0)), (1, .int x1), (2, .int x2), (3, .int x3), (4, .int x4)] → W p l e rmX6_read s m args below meth c H locs 0 0 Q (F0 m 51 ls []) := by
  obtain ⟨hx, hb, hml, hown, hts⟩ := id C.1
  have hinRX6 : ∀ w ∈ u_ws RX6 TX6 16, w ∈ wsX6_read := by decide +kernel
  have lk19 := hts (.fieldLink RX6 19 "GraveRowsModel" "sizes" "[I") (by decide +kernel)
  have lk22 := hts (.fieldLink RX6 22 "GraveRowsModel" "sheets" "[I") (by decide +kernel)
  intro n
  induction n with
  | zero =>
    intro x3 x4 H locs ls h hI hl
    rw [f_X6_read_L51] at h
    cases h
  | succ n ih =>
    intro x3 x4 H locs ls h hI hl
    rw [f_X6_read_L51] at h
    refine lv_iload hx hb dX6_read_51 (lv_at hl 4 rfl) ?_
    refine lv_aload_n hx hb dX6_read_53 rfl (lv_at hl 0 rfl) ?_
    refine w_get (v := .ref (am 4)) C hinRX6 hI X.length wM_ob rfl 5 (by decide) lk19 rfl rfl dX6_read_54 ?_
    refine lv_iload_n hx hb dX6_read_57 rfl (lv_at hl 2 rfl) ?_
    refine w_ld C hI (X.length + (3 + 1)) (wM_ar (by decide)) h dX6_read_58 (fun j_12 hj_12 h => ?_)
    refine lv_icmp_ge (tgt := 101) hx hb dX6_read_59 (by decide) (fun c_13 => ?_) (fun c_13 => ?_)
    · replace h := (if_pos c_13).symm.trans h
      exact hk _ _ _ _ _ h hI (lv_sub hl [0, 1, 2, 3, 4] rfl)
    · replace h := (if_neg c_13).symm.trans h
      refine lv_aload_n hx hb dX6_read_62 rfl (lv_at hl 0 rfl) ?_
      refine w_get (v := .ref (am 5)) C hinRX6 hI X.length wM_ob rfl 6 (by decide) lk22 rfl rfl dX6_read_63 ?_
      refine lv_bipush (v := 12) hx hb dX6_read_66 (by decide) ?_
      refine lv_iload_n hx hb dX6_read_68 rfl (lv_at hl 2 rfl) ?_
      refine lv_imul hx hb dX6_read_69 ?_
      refine lv_iload hx hb dX6_read_70 (lv_at hl 4 rfl) ?_
      refine lv_iadd hx hb dX6_read_72 ?_
      refine w_ld C hI (X.length + (4 + 1)) (wM_ar (by decide)) h dX6_read_73 (fun j_14 hj_14 h => ?_)
      refine lv_if_eq (tgt := 86) hx hb dX6_read_74 (by decide) (fun c_15 => ?_) (fun c_15 => ?_)
      · replace h := (if_pos c_15).symm.trans h
        refine lv_iload_n hx hb dX6_read_86 rfl (lv_at hl 3 rfl) ?_
        refine lv_iconst (v := 1) hx hb dX6_read_87 (by decide) ?_
        refine lv_iload hx hb dX6_read_88 (lv_at hl 4 rfl) ?_
        refine lv_ishl hx hb dX6_read_90 ?_
        refine lv_iconst (v := (-1)) hx hb dX6_read_91 (by decide) ?_
        refine lv_ixor hx hb dX6_read_92 ?_
        refine lv_iand hx hb dX6_read_93 ?_
        refine gen_i h (fun v_16 h => ?_)
        refine lv_istore_n (lv' := [(3, .int v_16), (0, .ref (am 0)), (1, .int x1), (2, .int x2), (4, .int x4)]) hx hb dX6_read_94 rfl hl (by decide) rfl (fun ls hl => ?_)
        refine lv_iinc (v := x4 + 1) (lv' := [(4, .int (x4 + 1)), (3, .int v_16), (0, .ref (am 0)), (1, .int x1), (2, .int x2)]) hx hb dX6_read_95 hl (k := 4) rfl rfl (by decide) rfl (fun ls hl => ?_)
        refine lv_goto (tgt := 51) hx hb dX6_read_98 (by decide) ?_
        exact ih _ _ _ _ _ h hI (lv_sub hl [2, 3, 4, 1, 0] rfl)
      · replace h := (if_neg c_15).symm.trans h
        refine lv_iload_n hx hb dX6_read_77 rfl (lv_at hl 3 rfl) ?_
        refine lv_iconst (v := 1) hx hb dX6_read_78 (by decide) ?_
        refine lv_iload hx hb dX6_read_79 (lv_at hl 4 rfl) ?_
        refine lv_ishl hx hb dX6_read_81 ?_
        refine lv_ior hx hb dX6_read_82 ?_
        refine lv_goto (tgt := 94) hx hb dX6_read_83 (by decide) ?_
        refine gen_i h (fun v_17 h => ?_)
        refine lv_istore_n (lv' := [(3, .int v_17), (0, .ref (am 0)), (1, .int x1), (2, .int x2), (4, .int x4)]) hx hb dX6_read_94 rfl hl (by decide) rfl (fun ls hl => ?_)
        refine lv_iinc (v := x4 + 1) (lv' := [(4, .int (x4 + 1)), (3, .int v_17), (0, .ref (am 0)), (1, .int x1), (2, .int x2)]) hx hb dX6_read_95 hl (k := 4) rfl rfl (by decide) rfl (fun ls hl => ?_)
        refine lv_goto (tgt := 51) hx hb dX6_read_98 (by decide) ?_
        exact ih _ _ _ _ _ h hI (lv_sub hl [2, 3, 4, 1, 0] rfl)
set_option maxHeartbeats 4000000 in
set_option maxRecDepth 100000 in
theorem c_X6_read (l : Launch) (g : GP) (X : va_W) (am : Nat → Nat) (N : Nat) (x1 : Int32) (x2 : Int32)  (st : St) {r : Int32} {st' : St} (h : f_X6_read N st x1 x2 = some (r, st')) : MetI l yX6_read wsX6_read rmX6_read g (wMX g X am) [.ref (am 0), .int x1, .int x2] st (r) st' := by
  refine metI_of (cc := cX6_read) (nL := 5) (ty := .int) (by decide) rfl (Nat.le_of_ble_eq_true rfl) rfl ?_
  intro p e s m below meth c Q A C hret H locs hI ls hl
  have C : Cx p s m _ c cX6_read 5 wsX6_read RX6 g A := C
  obtain ⟨hx, hb, hml, hown, hts⟩ := id C.1
  have hl : lv_has ls 5 [(0, .ref (am 0)), (1, .int x1), (2, .int x2)] := hl
  have lc48 := hts (.constant RX6 48 (-100001)) (by decide +kernel)
  have hinRX6 : ∀ w ∈ u_ws RX6 TX6 16, w ∈ wsX6_read := by decide +kernel
  have lk16 := hts (.fieldLink RX6 16 "GraveRowsModel" "bits" "[I") (by decide +kernel)
  have lk9 := hts (.fieldLink RX6 9 "GraveRowsModel" "now" "[I") (by decide +kernel)
  have lc87 := hts (.constant RX6 87 (-100002)) (by decide +kernel)
  rw [f_X6_read] at h
  refine lv_aload_n hx hb dX6_read_0 rfl (lv_at hl 0 rfl) ?_
  refine lv_iload_n hx hb dX6_read_1 rfl (lv_at hl 1 rfl) ?_
  refine callV_I (rest := []) C hI (c_X6_isGrave l g X am x1 st) (cwV 1 hts gX6_read_X6_isGrave rfl rfl rfl hv_X6_isGrave ⟨Nat.le_of_ble_eq_true rfl, Nat.le_of_ble_eq_true rfl⟩) (w_recv C hI X.length wM_ob rfl) rfl hl.1 rfl (Nat.le_of_ble_eq_true rfl) dX6_read_2 (fun H locs hI => ?_)
  refine gen_b h (fun r_1 h => ?_)
  refine lv_if_eq (tgt := 15) hx hb dX6_read_5 (by decide) (fun c_2 => ?_) (fun c_2 => ?_)
  · replace h := (if_pos c_2).symm.trans h
    refine lv_aload_n hx hb dX6_read_15 rfl (lv_at hl 0 rfl) ?_
    refine lv_ldc (v := (-100001)) hx hb hown lc48 dX6_read_16 ?_
    obtain ⟨r_4, st_5, hr_3, h⟩ := bd2_some h
    refine callV_I (rest := []) C hI (c_X6_finding l g X am (-100001 : Int32) st hr_3) (cwV 1 hts gX6_read_X6_finding rfl rfl rfl hv_X6_finding ⟨Nat.le_of_ble_eq_true rfl, Nat.le_of_ble_eq_true rfl⟩) (w_recv C hI X.length wM_ob rfl) rfl hl.1 rfl (Nat.le_of_ble_eq_true rfl) dX6_read_18 (fun H locs hI => ?_)
    obtain ⟨rfl, rfl⟩ := ret2 h
    exact hret H locs _ ls hI dX6_read_21
  · replace h := (if_neg c_2).symm.trans h
    refine lv_iload_n hx hb dX6_read_8 rfl (lv_at hl 2 rfl) ?_
    refine callS_S (rest := []) C.1 (c_X6_isSheet l x2) (va_cwS 1 hts gX6_read_X6_isSheet rfl rfl rfl hd_X6_isSheet ⟨Nat.le_of_ble_eq_true rfl, Nat.le_of_ble_eq_true rfl⟩) rfl hl.1 rfl (Nat.le_of_ble_eq_true rfl) dX6_read_9 ?_
    refine gen_b h (fun r_6 h => ?_)
    refine lv_if_ne (tgt := 22) hx hb dX6_read_12 (by decide) (fun c_7 => ?_) (fun c_7 => ?_)
    · replace h := (if_neg c_7).symm.trans h
      refine lv_aload_n hx hb dX6_read_22 rfl (lv_at hl 0 rfl) ?_
      refine w_get (v := .ref (am 3)) C hinRX6 hI X.length wM_ob rfl 4 (by decide) lk16 rfl rfl dX6_read_23 ?_
      refine lv_iload_n hx hb dX6_read_26 rfl (lv_at hl 2 rfl) ?_
      refine w_ld C hI (X.length + (2 + 1)) (wM_ar (by decide)) h dX6_read_27 (fun j_8 hj_8 h => ?_)
      refine lv_if_ne (tgt := 38) hx hb dX6_read_28 (by decide) (fun c_9 => ?_) (fun c_9 => ?_)
      · replace h := (if_neg c_9).symm.trans h
        refine lv_aload_n hx hb dX6_read_38 rfl (lv_at hl 0 rfl) ?_
        refine w_get (v := .ref (am 1)) C hinRX6 hI X.length wM_ob rfl 0 (by decide) lk9 rfl rfl dX6_read_39 ?_
        refine lv_bipush (v := 32) hx hb dX6_read_42 (by decide) ?_
        refine lv_iload_n hx hb dX6_read_44 rfl (lv_at hl 1 rfl) ?_
        refine lv_iadd hx hb dX6_read_45 ?_
        refine w_ld C hI (X.length + (0 + 1)) (wM_ar (by decide)) h dX6_read_46 (fun j_10 hj_10 h => ?_)
        refine gen_i h (fun v_11 h => ?_)
        refine lv_istore_n (lv' := [(3, .int v_11), (0, .ref (am 0)), (1, .int x1), (2, .int x2)]) hx hb dX6_read_47 rfl hl (by decide) rfl (fun ls hl => ?_)
        refine lv_iconst (v := 0) hx hb dX6_read_48 (by decide) ?_
        refine lv_istore (lv' := [(4, .int 0), (3, .int v_11), (0, .ref (am 0)), (1, .int x1), (2, .int x2)]) hx hb dX6_read_49 hl (by decide) rfl (fun ls hl => ?_)
        refine wl_X6_read_L51 C hret N x1 x2 st _ (fun a_18 a_19 H locs ls h hI hl => ?_) N v_11 0 H locs ls h hI (lv_sub hl [2, 3, 4, 1, 0] rfl)
        refine lv_aload_n hx hb dX6_read_101 rfl (lv_at hl 0 rfl) ?_
        refine w_get (v := .ref (am 1)) C hinRX6 hI X.length wM_ob rfl 0 (by decide) lk9 rfl rfl dX6_read_102 ?_
        refine lv_bipush (v := 32) hx hb dX6_read_105 (by decide) ?_
        refine lv_iload_n hx hb dX6_read_107 rfl (lv_at hl 1 rfl) ?_
        refine lv_iadd hx hb dX6_read_108 ?_
        refine lv_iload_n hx hb dX6_read_109 rfl (lv_at hl 3 rfl) ?_
        refine w_st C hI (X.length + (0 + 1)) (wM_ar (by decide)) (wM_setar (by decide)) h dX6_read_110 (fun st_20 H locs h hI => ?_)
        refine lv_iload_n hx hb dX6_read_111 rfl (lv_at hl 3 rfl) ?_
        obtain ⟨r_22, hr_21, h⟩ := bd1_some h
        refine callS_S (rest := []) C.1 (c_X6_many l N a_18 hr_21) (va_cwS 1 hts gX6_read_X6_many rfl rfl rfl hd_X6_many ⟨Nat.le_of_ble_eq_true rfl, Nat.le_of_ble_eq_true rfl⟩) rfl hl.1 rfl (Nat.le_of_ble_eq_true rfl) dX6_read_112 ?_
        obtain ⟨rfl, rfl⟩ := ret2 h
        exact hret H locs _ ls hI dX6_read_115
      · replace h := (if_pos c_9).symm.trans h
        refine lv_aload_n hx hb dX6_read_31 rfl (lv_at hl 0 rfl) ?_
        refine lv_ldc (v := (-100002)) hx hb hown lc87 dX6_read_32 ?_
        obtain ⟨r_24, st_25, hr_23, h⟩ := bd2_some h
        refine callV_I (rest := []) C hI (c_X6_finding l g X am (-100002 : Int32) st hr_23) (cwV 1 hts gX6_read_X6_finding rfl rfl rfl hv_X6_finding ⟨Nat.le_of_ble_eq_true rfl, Nat.le_of_ble_eq_true rfl⟩) (w_recv C hI X.length wM_ob rfl) rfl hl.1 rfl (Nat.le_of_ble_eq_true rfl) dX6_read_34 (fun H locs hI => ?_)
        obtain ⟨rfl, rfl⟩ := ret2 h
        exact hret H locs _ ls hI dX6_read_37
    · replace h := (if_pos c_7).symm.trans h
      refine lv_aload_n hx hb dX6_read_15 rfl (lv_at hl 0 rfl) ?_
      refine lv_ldc (v := (-100001)) hx hb hown lc48 dX6_read_16 ?_
      obtain ⟨r_27, st_28, hr_26, h⟩ := bd2_some h
      refine callV_I (rest := []) C hI (c_X6_finding l g X am (-100001 : Int32) st hr_26) (cwV 1 hts gX6_read_X6_finding rfl rfl rfl hv_X6_finding ⟨Nat.le_of_ble_eq_true rfl, Nat.le_of_ble_eq_true rfl⟩) (w_recv C hI X.length wM_ob rfl) rfl hl.1 rfl (Nat.le_of_ble_eq_true rfl) dX6_read_18 (fun H locs hI => ?_)
      obtain ⟨rfl, rfl⟩ := ret2 h
      exact hret H locs _ ls hI dX6_read_21
theorem hv_X6_read : yX6_read.cls = RX6 ∧ yX6_read.cls ≠ "java/lang/invoke/MethodHandle" ∧ yX6_read.cls ≠ "java/lang/invoke/VarHandle" ∧ (parseMethodDescriptor yX6_read.desc).map (fun d => d.parameters.length) = some 2 := by decide +kernel
/-! X6_mayHave -/
def rmX6_mayHave : Room := { frames := 0, cells := 0, slots := 0, locals := 0 }
def f_X6_mayHave (st : St) (x1 : Int32) : Option (Bool) := ck 116 (2 + x1) fun j_1 => if st 0 j_1 = 1 then some true else ck 116 (2 + x1) fun j_3 => if st 0 j_3 = 3 then some true else some false
set_option maxHeartbeats 4000000 in
set_option maxRecDepth 100000 in
theorem c_X6_mayHave (l : Launch) (g : GP) (X : va_W) (am : Nat → Nat) (x1 : Int32)  (st : St) {r : Bool}  (h : f_X6_mayHave st x1 = some r) : MetI l yX6_mayHave wsX6_mayHave rmX6_mayHave g (wMX g X am) [.ref (am 0), .int x1] st (b2i r) st := by
  refine metI_of (cc := cX6_mayHave) (nL := 2) (ty := .boolean) (by decide) rfl (Nat.le_of_ble_eq_true rfl) (nar_b _) ?_
  intro p e s m below meth c Q A C hret H locs hI ls hl
  have C : Cx p s m _ c cX6_mayHave 2 wsX6_mayHave RX6 g A := C
  obtain ⟨hx, hb, hml, hown, hts⟩ := id C.1
  have hl : lv_has ls 2 [(0, .ref (am 0)), (1, .int x1)] := hl
  have hinRX6 : ∀ w ∈ u_ws RX6 TX6 16, w ∈ wsX6_mayHave := by decide +kernel
  have lk9 := hts (.fieldLink RX6 9 "GraveRowsModel" "now" "[I") (by decide +kernel)
  rw [f_X6_mayHave] at h
  refine lv_aload_n hx hb dX6_mayHave_0 rfl (lv_at hl 0 rfl) ?_
  refine w_get (v := .ref (am 1)) C hinRX6 hI X.length wM_ob rfl 0 (by decide) lk9 rfl rfl dX6_mayHave_1 ?_
  refine lv_iconst (v := 2) hx hb dX6_mayHave_4 (by decide) ?_
  refine lv_iload_n hx hb dX6_mayHave_5 rfl (lv_at hl 1 rfl) ?_
  refine lv_iadd hx hb dX6_mayHave_6 ?_
  refine w_ld C hI (X.length + (0 + 1)) (wM_ar (by decide)) h dX6_mayHave_7 (fun j_1 hj_1 h => ?_)
  refine lv_iconst (v := 1) hx hb dX6_mayHave_8 (by decide) ?_
  refine lv_icmp_eq (tgt := 24) hx hb dX6_mayHave_9 (by decide) (fun c_2 => ?_) (fun c_2 => ?_)
  · replace h := (if_pos c_2).symm.trans h
    refine lv_iconst (v := 1) hx hb dX6_mayHave_24 (by decide) ?_
    refine lv_goto (tgt := 29) hx hb dX6_mayHave_25 (by decide) ?_
    obtain rfl := ret1 h
    exact hret H locs _ ls hI dX6_mayHave_29
  · replace h := (if_neg c_2).symm.trans h
    refine lv_aload_n hx hb dX6_mayHave_12 rfl (lv_at hl 0 rfl) ?_
    refine w_get (v := .ref (am 1)) C hinRX6 hI X.length wM_ob rfl 0 (by decide) lk9 rfl rfl dX6_mayHave_13 ?_
    refine lv_iconst (v := 2) hx hb dX6_mayHave_16 (by decide) ?_
    refine lv_iload_n hx hb dX6_mayHave_17 rfl (lv_at hl 1 rfl) ?_
    refine lv_iadd hx hb dX6_mayHave_18 ?_
    refine w_ld C hI (X.length + (0 + 1)) (wM_ar (by decide)) h dX6_mayHave_19 (fun j_3 hj_3 h => ?_)
    refine lv_iconst (v := 3) hx hb dX6_mayHave_20 (by decide) ?_
    refine lv_icmp_ne (tgt := 28) hx hb dX6_mayHave_21 (by decide) (fun c_4 => ?_) (fun c_4 => ?_)
    · replace h := (if_neg c_4).symm.trans h
      refine lv_iconst (v := 0) hx hb dX6_mayHave_28 (by decide) ?_
      obtain rfl := ret1 h
      exact hret H locs _ ls hI dX6_mayHave_29
    · replace h := (if_pos c_4).symm.trans h
      refine lv_iconst (v := 1) hx hb dX6_mayHave_24 (by decide) ?_
      refine lv_goto (tgt := 29) hx hb dX6_mayHave_25 (by decide) ?_
      obtain rfl := ret1 h
      exact hret H locs _ ls hI dX6_mayHave_29
theorem hv_X6_mayHave : yX6_mayHave.cls = RX6 ∧ yX6_mayHave.cls ≠ "java/lang/invoke/MethodHandle" ∧ yX6_mayHave.cls ≠ "java/lang/invoke/VarHandle" ∧ (parseMethodDescriptor yX6_mayHave.desc).map (fun d => d.parameters.length) = some 1 := by decide +kernel
/-! X6_holesOf -/
def rmX6_holesOf : Room := { frames := 1, cells := 0, slots := 0, locals := 22 }
def f_X6_holesOf_L19 (N : Nat) (x1 : Int32) (x2 : Int32) (x3 : Int32) (st : St) (k : Int32 → Int32 → Int32 → Option (Int32)) : Nat → Int32 → Int32 → Int32 → Option (Int32)
  | 0, _, _, _ => none
  | n + 1, x4, x5, x6 => if st 0 0 ≤ x6 then k x4 x5 x6 else if (x2 >>> (x6 &&& 31)) &&& (1 : Int32) = 1 then ck 116 (32 + x6) fun j_9 => bnd (x4 ||| (st 0 j_9)) fun v_10 => f_X6_holesOf_L19 N x1 x2 x3 st k n v_10 x5 (x6 + 1) else if x6 = x1 then f_X6_holesOf_L19 N x1 x2 x3 st k n x4 x5 (x6 + 1) else ck 116 (32 + x6) fun j_7 => bnd (x5 ||| (st 0 j_7)) fun v_8 => f_X6_holesOf_L19 N x1 x2 x3 st k n x4 v_8 (x6 + 1)
def f_X6_holesOf (N : Nat) (st : St) (x1 : Int32) (x2 : Int32) (x3 : Int32) : Option (Int32) := bd1 (f_X6_mayHave st x1) fun r_2 => if b2i r_2 = 0 then f_X6_holesOf_L19 N x1 x2 x3 st (fun a_11 a_12 a_13 => ck 116 (32 + x1) fun j_14 => bd1 (f_X6_many N (((a_11 &&& a_12) &&& x3) &&& ((st 0 j_14) ^^^ (-1 : Int32)))) fun r_16 => some r_16) N 0 0 0 else some 0
set_option maxHeartbeats 4000000 in
set_option maxRecDepth 100000 in
theorem wl_X6_holesOf_L19 {p : Program} {l : Launch} {e : Env} {s : State} {m : MethodId} {args : Array Value} {below : List Frame} {meth : Method} {c : Code} {Q : State → Prop} {A : Nat → Prop} {g : GP} {X : va_W} {am : Nat → Nat} {r : Int32}  (C : Cx p s m args c cX6_holesOf 7 wsX6_holesOf RX6 g A) (st : St) (hret : RetI p l e rmX6_holesOf s m args below meth c Q cX6_holesOf g A (wMX g X am st) (r)) (N : Nat) (x1 : Int32) (x2 : Int32) (x3 : Int32)  (k : Int32 → Int32 → Int32 → Option (Int32)) (hk : ∀ (x4 : Int32) (x5 : Int32) (x6 : Int32) (H : Heap) (locs : List Loc) (ls : Array Slot), k x4 x5 x6 = some r → IW g A s.heap (wMX g X am st) H locs → lv_has ls 7 [(0, .ref (am 0)), (1, .int x1), (2, .int x2), (3, .int x3), (4, .int x4), (5, .int x5), (6, .int x6)] → W p l e rmX6_holesOf s m args below meth c H locs 0 0 Q (F0 m 85 ls [])) : ∀ (n : Nat) (x4 : Int32) (x5 : Int32) (x6 : Int32) (H : Heap) (locs : List Loc) (ls : Array Slot), f_X6_holesOf_L19 N x1 x2 x3 st k n x4 x5 x6 = some r → IW g A s.heap (wMX g X am st) H locs → lv_has ls 7 [(0, .ref (am 0)), (1, .int x1), (2, .int x2), (3, .int x3), (4, .int x4), (5, .int x5), (6, .int x6)] → W p l e rmX6_holesOf s m args below meth c H locs 0 0 Q (F0 m 19 ls []) := by
  obtain ⟨hx, hb, hml, hown, hts⟩ := id C.1
  have hinRX6 : ∀ w ∈ u_ws RX6 TX6 16, w ∈ wsX6_holesOf := by decide +kernel
  have lk9 := hts (.fieldLink RX6 9 "GraveRowsModel" "now" "[I") (by decide +kernel)
  intro n
  induction n with
  | zero =>
    intro x4 x5 x6 H locs ls h hI hl
    rw [f_X6_holesOf_L19] at h
    cases h
  | succ n ih =>
    intro x4 x5 x6 H locs ls h hI hl
    rw [f_X6_holesOf_L19] at h
    refine lv_iload hx hb dX6_holesOf_19 (lv_at hl 6 rfl) ?_
    refine lv_aload_n hx hb dX6_holesOf_21 rfl (lv_at hl 0 rfl) ?_
    refine w_get (v := .ref (am 1)) C hinRX6 hI X.length wM_ob rfl 0 (by decide) lk9 rfl rfl dX6_holesOf_22 ?_
    refine lv_iconst (v := 0) hx hb dX6_holesOf_25 (by decide) ?_
    refine w_ldK C hI (X.length + (0 + 1)) (wM_ar (by decide)) 0 (by decide) (by decide) dX6_holesOf_26 ?_
    refine lv_icmp_ge (tgt := 85) hx hb dX6_holesOf_27 (by decide) (fun c_4 => ?_) (fun c_4 => ?_)
    · replace h := (if_pos c_4).symm.trans h
      exact hk _ _ _ _ _ _ h hI (lv_sub hl [0, 1, 2, 3, 4, 5, 6] rfl)
    · replace h := (if_neg c_4).symm.trans h
      refine lv_iload_n hx hb dX6_holesOf_30 rfl (lv_at hl 2 rfl) ?_
      refine lv_iload hx hb dX6_holesOf_31 (lv_at hl 6 rfl) ?_
      refine lv_ishr hx hb dX6_holesOf_33 ?_
      refine lv_iconst (v := 1) hx hb dX6_holesOf_34 (by decide) ?_
      refine lv_iand hx hb dX6_holesOf_35 ?_
      refine lv_iconst (v := 1) hx hb dX6_holesOf_36 (by decide) ?_
      refine lv_icmp_ne (tgt := 58) hx hb dX6_holesOf_37 (by decide) (fun c_5 => ?_) (fun c_5 => ?_)
      · replace h := (if_neg c_5).symm.trans h
        refine lv_iload hx hb dX6_holesOf_58 (lv_at hl 6 rfl) ?_
        refine lv_iload_n hx hb dX6_holesOf_60 rfl (lv_at hl 1 rfl) ?_
        refine lv_icmp_eq (tgt := 79) hx hb dX6_holesOf_61 (by decide) (fun c_6 => ?_) (fun c_6 => ?_)
        · replace h := (if_pos c_6).symm.trans h
          refine lv_iinc (v := x6 + 1) (lv' := [(6, .int (x6 + 1)), (0, .ref (am 0)), (1, .int x1), (2, .int x2), (3, .int x3), (4, .int x4), (5, .int x5)]) hx hb dX6_holesOf_79 hl (k := 6) rfl rfl (by decide) rfl (fun ls hl => ?_)
          refine lv_goto (tgt := 19) hx hb dX6_holesOf_82 (by decide) ?_
          exact ih _ _ _ _ _ _ h hI (lv_sub hl [1, 2, 3, 4, 5, 6, 0] rfl)
        · replace h := (if_neg c_6).symm.trans h
          refine lv_iload hx hb dX6_holesOf_64 (lv_at hl 5 rfl) ?_
          refine lv_aload_n hx hb dX6_holesOf_66 rfl (lv_at hl 0 rfl) ?_
          refine w_get (v := .ref (am 1)) C hinRX6 hI X.length wM_ob rfl 0 (by decide) lk9 rfl rfl dX6_holesOf_67 ?_
          refine lv_bipush (v := 32) hx hb dX6_holesOf_70 (by decide) ?_
          refine lv_iload hx hb dX6_holesOf_72 (lv_at hl 6 rfl) ?_
          refine lv_iadd hx hb dX6_holesOf_74 ?_
          refine w_ld C hI (X.length + (0 + 1)) (wM_ar (by decide)) h dX6_holesOf_75 (fun j_7 hj_7 h => ?_)
          refine lv_ior hx hb dX6_holesOf_76 ?_
          refine gen_i h (fun v_8 h => ?_)
          refine lv_istore (lv' := [(5, .int v_8), (0, .ref (am 0)), (1, .int x1), (2, .int x2), (3, .int x3), (4, .int x4), (6, .int x6)]) hx hb dX6_holesOf_77 hl (by decide) rfl (fun ls hl => ?_)
          refine lv_iinc (v := x6 + 1) (lv' := [(6, .int (x6 + 1)), (5, .int v_8), (0, .ref (am 0)), (1, .int x1), (2, .int x2), (3, .int x3), (4, .int x4)]) hx hb dX6_holesOf_79 hl (k := 6) rfl rfl (by decide) rfl (fun ls hl => ?_)
          refine lv_goto (tgt := 19) hx hb dX6_holesOf_82 (by decide) ?_
          exact ih _ _ _ _ _ _ h hI (lv_sub hl [2, 3, 4, 5, 6, 1, 0] rfl)
      · replace h := (if_pos c_5).symm.trans h
        refine lv_iload hx hb dX6_holesOf_40 (lv_at hl 4 rfl) ?_
        refine lv_aload_n hx hb dX6_holesOf_42 rfl (lv_at hl 0 rfl) ?_
        refine w_get (v := .ref (am 1)) C hinRX6 hI X.length wM_ob rfl 0 (by decide) lk9 rfl rfl dX6_holesOf_43 ?_
        refine lv_bipush (v := 32) hx hb dX6_holesOf_46 (by decide) ?_
        refine lv_iload hx hb dX6_holesOf_48 (lv_at hl 6 rfl) ?_
        refine lv_iadd hx hb dX6_holesOf_50 ?_
        refine w_ld C hI (X.length + (0 + 1)) (wM_ar (by decide)) h dX6_holesOf_51 (fun j_9 hj_9 h => ?_)
        refine lv_ior hx hb dX6_holesOf_52 ?_
        refine gen_i h (fun v_10 h => ?_)
        refine lv_istore (lv' := [(4, .int v_10), (0, .ref (am 0)), (1, .int x1), (2, .int x2), (3, .int x3), (5, .int x5), (6, .int x6)]) hx hb dX6_holesOf_53 hl (by decide) rfl (fun ls hl => ?_)
        refine lv_goto (tgt := 79) hx hb dX6_holesOf_55 (by decide) ?_
        refine lv_iinc (v := x6 + 1) (lv' := [(6, .int (x6 + 1)), (4, .int v_10), (0, .ref (am 0)), (1, .int x1), (2, .int x2), (3, .int x3), (5, .int x5)]) hx hb dX6_holesOf_79 hl (k := 6) rfl rfl (by decide) rfl (fun ls hl => ?_)
        refine lv_goto (tgt := 19) hx hb dX6_holesOf_82 (by decide) ?_
        exact ih _ _ _ _ _ _ h hI (lv_sub hl [2, 3, 4, 5, 1, 6, 0] rfl)
set_option maxHeartbeats 4000000 in
set_option maxRecDepth 100000 in
theorem c_X6_holesOf (l : Launch) (g : GP) (X : va_W) (am : Nat → Nat) (N : Nat) (x1 : Int32) (x2 : Int32) (x3 : Int32)  (st : St) {r : Int32}  (h : f_X6_holesOf N st x1 x2 x3 = some r) : MetI l yX6_holesOf wsX6_holesOf rmX6_holesOf g (wMX g X am) [.ref (am 0), .int x1, .int x2, .int x3] st (r) st := by
  refine metI_of (cc := cX6_holesOf) (nL := 7) (ty := .int) (by decide) rfl (Nat.le_of_ble_eq_true rfl) rfl ?_
  intro p e s m below meth c Q A C hret H locs hI ls hl
  have C : Cx p s m _ c cX6_holesOf 7 wsX6_holesOf RX6 g A := C
  obtain ⟨hx, hb, hml, hown, hts⟩ := id C.1
  have hl : lv_has ls 7 [(0, .ref (am 0)), (1, .int x1), (2, .int x2), (3, .int x3)] := hl
  have hinRX6 : ∀ w ∈ u_ws RX6 TX6 16, w ∈ wsX6_holesOf := by decide +kernel
  have lk9 := hts (.fieldLink RX6 9 "GraveRowsModel" "now" "[I") (by decide +kernel)
  rw [f_X6_holesOf] at h
  refine lv_aload_n hx hb dX6_holesOf_0 rfl (lv_at hl 0 rfl) ?_
  refine lv_iload_n hx hb dX6_holesOf_1 rfl (lv_at hl 1 rfl) ?_
  obtain ⟨r_2, hr_1, h⟩ := bd1_some h
  refine callV_I (rest := []) C hI (c_X6_mayHave l g X am x1 st hr_1) (cwV 1 hts gX6_holesOf_X6_mayHave rfl rfl rfl hv_X6_mayHave ⟨Nat.le_of_ble_eq_true rfl, Nat.le_of_ble_eq_true rfl⟩) (w_recv C hI X.length wM_ob rfl) rfl hl.1 rfl (Nat.le_of_ble_eq_true rfl) dX6_holesOf_2 (fun H locs hI => ?_)
  refine lv_if_eq (tgt := 10) hx hb dX6_holesOf_5 (by decide) (fun c_3 => ?_) (fun c_3 => ?_)
  · replace h := (if_pos c_3).symm.trans h
    refine lv_iconst (v := 0) hx hb dX6_holesOf_10 (by decide) ?_
    refine lv_istore (lv' := [(4, .int 0), (0, .ref (am 0)), (1, .int x1), (2, .int x2), (3, .int x3)]) hx hb dX6_holesOf_11 hl (by decide) rfl (fun ls hl => ?_)
    refine lv_iconst (v := 0) hx hb dX6_holesOf_13 (by decide) ?_
    refine lv_istore (lv' := [(5, .int 0), (4, .int 0), (0, .ref (am 0)), (1, .int x1), (2, .int x2), (3, .int x3)]) hx hb dX6_holesOf_14 hl (by decide) rfl (fun ls hl => ?_)
    refine lv_iconst (v := 0) hx hb dX6_holesOf_16 (by decide) ?_
    refine lv_istore (lv' := [(6, .int 0), (5, .int 0), (4, .int 0), (0, .ref (am 0)), (1, .int x1), (2, .int x2), (3, .int x3)]) hx hb dX6_holesOf_17 hl (by decide) rfl (fun ls hl => ?_)
    refine wl_X6_holesOf_L19 C st hret N x1 x2 x3 _ (fun a_11 a_12 a_13 H locs ls h hI hl => ?_) N 0 0 0 H locs ls h hI (lv_sub hl [3, 4, 5, 6, 2, 1, 0] rfl)
    refine lv_iload hx hb dX6_holesOf_85 (lv_at hl 4 rfl) ?_
    refine lv_iload hx hb dX6_holesOf_87 (lv_at hl 5 rfl) ?_
    refine lv_iand hx hb dX6_holesOf_89 ?_
    refine lv_iload_n hx hb dX6_holesOf_90 rfl (lv_at hl 3 rfl) ?_
    refine lv_iand hx hb dX6_holesOf_91 ?_
    refine lv_aload_n hx hb dX6_holesOf_92 rfl (lv_at hl 0 rfl) ?_
    refine w_get (v := .ref (am 1)) C hinRX6 hI X.length wM_ob rfl 0 (by decide) lk9 rfl rfl dX6_holesOf_93 ?_
    refine lv_bipush (v := 32) hx hb dX6_holesOf_96 (by decide) ?_
    refine lv_iload_n hx hb dX6_holesOf_98 rfl (lv_at hl 1 rfl) ?_
    refine lv_iadd hx hb dX6_holesOf_99 ?_
    refine w_ld C hI (X.length + (0 + 1)) (wM_ar (by decide)) h dX6_holesOf_100 (fun j_14 hj_14 h => ?_)
    refine lv_iconst (v := (-1)) hx hb dX6_holesOf_101 (by decide) ?_
    refine lv_ixor hx hb dX6_holesOf_102 ?_
    refine lv_iand hx hb dX6_holesOf_103 ?_
    obtain ⟨r_16, hr_15, h⟩ := bd1_some h
    refine callS_S (rest := []) C.1 (c_X6_many l N (((a_11 &&& a_12) &&& x3) &&& ((st 0 j_14) ^^^ (-1 : Int32))) hr_15) (va_cwS 1 hts gX6_holesOf_X6_many rfl rfl rfl hd_X6_many ⟨Nat.le_of_ble_eq_true rfl, Nat.le_of_ble_eq_true rfl⟩) rfl hl.1 rfl (Nat.le_of_ble_eq_true rfl) dX6_holesOf_104 ?_
    obtain rfl := ret1 h
    exact hret H locs _ ls hI dX6_holesOf_107
  · replace h := (if_neg c_3).symm.trans h
    refine lv_iconst (v := 0) hx hb dX6_holesOf_8 (by decide) ?_
    obtain rfl := ret1 h
    exact hret H locs _ ls hI dX6_holesOf_9
theorem hv_X6_holesOf : yX6_holesOf.cls = RX6 ∧ yX6_holesOf.cls ≠ "java/lang/invoke/MethodHandle" ∧ yX6_holesOf.cls ≠ "java/lang/invoke/VarHandle" ∧ (parseMethodDescriptor yX6_holesOf.desc).map (fun d => d.parameters.length) = some 3 := by decide +kernel
/-! X6_take -/
def rmX6_take : Room := { frames := 0, cells := 0, slots := 0, locals := 0 }
def f_X6_take_L20 (N : Nat) (x2 : Int32) (k : Int32 → St → Option (St)) : Nat → Int32 → St → Option (St)
  | 0, _, _ => none
  | n + 1, x3, st => if x2 ≤ x3 then k x3 st else ck 10 x3 fun j_6 => sto 10 st 6 x3 (st 7 j_6) fun st_7 => f_X6_take_L20 N x2 k n (x3 + 1) st_7
def f_X6_take (N : Nat) (st : St) (x1 : Int32) (x2 : Int32) : Option (St) := if st 10 2 ≤ x1 then bnd (sU st 10 3 ((st 10 3) + 1)) fun st_2 => some st_2 else bnd (sU st 10 2 x1) fun st_3 => bnd (sU st_3 10 3 0) fun st_4 => f_X6_take_L20 N x2 (fun a_8 st_9 => bnd (sU st_9 10 3 ((st_9 10 3) + 1)) fun st_10 => some st_10) N 0 st_4
set_option maxHeartbeats 4000000 in
set_option maxRecDepth 100000 in
theorem wl_X6_take_L20 {p : Program} {l : Launch} {e : Env} {s : State} {m : MethodId} {args : Array Value} {below : List Frame} {meth : Method} {c : Code} {Q : State → Prop} {A : Nat → Prop} {g : GP} {X : va_W} {am : Nat → Nat} {st' : St} (C : Cx p s m args c cX6_take 4 wsX6_take RX6 g A) (hret : RetV p l e rmX6_take s m args below meth c Q cX6_take g A (wMX g X am st')) (N : Nat) (x2 : Int32)  (k : Int32 → St → Option (St)) (hk : ∀ (x3 : Int32) (st : St) (H : Heap) (locs : List Loc) (ls : Array Slot), k x3 st = some st' → IW g A s.heap (wMX g X am st) H locs → lv_has ls 4 [(0, .ref (am 0)), (2, .int x2), (3, .int x3)] → W p l e rmX6_take s m args below meth c H locs 0 0 Q (F0 m 43 ls [])) : ∀ (n : Nat) (x3 : Int32) (st : St) (H : Heap) (locs : List Loc) (ls : Array Slot), f_X6_take_L20 N x2 k n x3 st = some st' → IW g A s.heap (wMX g X am st) H locs → lv_has ls 4 [(0, .ref (am 0)), (2, .int x2), (3, .int x3)] → W p l e rmX6_take s m args below meth c H locs 0 0 Q (F0 m 20 ls []) := by
  obtain ⟨hx, hb, hml, hown, hts⟩ := id C.1
  have hinRX6 : ∀ w ∈ u_ws RX6 TX6 16, w ∈ wsX6_take := by decide +kernel
  have lk28 := hts (.fieldLink RX6 28 "GraveRowsModel" "best" "[I") (by decide +kernel)
  have lk31 := hts (.fieldLink RX6 31 "GraveRowsModel" "row" "[I") (by decide +kernel)
  intro n
  induction n with
  | zero =>
    intro x3 st H locs ls h hI hl
    rw [f_X6_take_L20] at h
    cases h
  | succ n ih =>
    intro x3 st H locs ls h hI hl
    rw [f_X6_take_L20] at h
    refine lv_iload_n hx hb dX6_take_20 rfl (lv_at hl 2 rfl) ?_
    refine lv_iload_n hx hb dX6_take_21 rfl (lv_at hl 1 rfl) ?_
    refine lv_icmp_ge (tgt := 43) hx hb dX6_take_22 (by decide) (fun c_5 => ?_) (fun c_5 => ?_)
    · replace h := (if_pos c_5).symm.trans h
      exact hk _ _ _ _ _ h hI (lv_sub hl [0, 1, 2] rfl)
    · replace h := (if_neg c_5).symm.trans h
      refine lv_aload_n hx hb dX6_take_25 rfl (lv_at hl 0 rfl) ?_
      refine w_get (v := .ref (am 7)) C hinRX6 hI X.length wM_ob rfl 10 (by decide) lk28 rfl rfl dX6_take_26 ?_
      refine lv_iload_n hx hb dX6_take_29 rfl (lv_at hl 2 rfl) ?_
      refine lv_aload_n hx hb dX6_take_30 rfl (lv_at hl 0 rfl) ?_
      refine w_get (v := .ref (am 8)) C hinRX6 hI X.length wM_ob rfl 11 (by decide) lk31 rfl rfl dX6_take_31 ?_
      refine lv_iload_n hx hb dX6_take_34 rfl (lv_at hl 2 rfl) ?_
      refine w_ld C hI (X.length + (7 + 1)) (wM_ar (by decide)) h dX6_take_35 (fun j_6 hj_6 h => ?_)
      refine w_st C hI (X.length + (6 + 1)) (wM_ar (by decide)) (wM_setar (by decide)) h dX6_take_36 (fun st_7 H locs h hI => ?_)
      refine lv_iinc (v := x3 + 1) (lv' := [(3, .int (x3 + 1)), (0, .ref (am 0)), (2, .int x2)]) hx hb dX6_take_37 hl (k := 2) rfl rfl (by decide) rfl (fun ls hl => ?_)
      refine lv_goto (tgt := 20) hx hb dX6_take_40 (by decide) ?_
      exact ih _ _ _ _ _ h hI (lv_sub hl [1, 2, 0] rfl)
set_option maxHeartbeats 4000000 in
set_option maxRecDepth 100000 in
theorem c_X6_take (l : Launch) (g : GP) (X : va_W) (am : Nat → Nat) (N : Nat) (x1 : Int32) (x2 : Int32)  (st : St) {st' : St} (h : f_X6_take N st x1 x2 = some st') : MetV l yX6_take wsX6_take rmX6_take g (wMX g X am) [.ref (am 0), .int x1, .int x2] st st' := by
  refine metV_of (cc := cX6_take) (nL := 4) (by decide) rfl (Nat.le_of_ble_eq_true rfl) ?_
  intro p e s m below meth c Q A C hret H locs hI ls hl
  have C : Cx p s m _ c cX6_take 4 wsX6_take RX6 g A := C
  obtain ⟨hx, hb, hml, hown, hts⟩ := id C.1
  have hl : lv_has ls 4 [(0, .ref (am 0)), (1, .int x1), (2, .int x2)] := hl
  have hinRX6 : ∀ w ∈ u_ws RX6 TX6 16, w ∈ wsX6_take := by decide +kernel
  have lk92 := hts (.fieldLink RX6 92 "GraveRowsModel" "least" "I") (by decide +kernel)
  have lk95 := hts (.fieldLink RX6 95 "GraveRowsModel" "ways" "I") (by decide +kernel)
  rw [f_X6_take] at h
  refine lv_iload_n hx hb dX6_take_0 rfl (lv_at hl 1 rfl) ?_
  refine lv_aload_n hx hb dX6_take_1 rfl (lv_at hl 0 rfl) ?_
  refine w_get (v := .int (st 10 2)) C hinRX6 hI X.length wM_ob rfl 8 (by decide) lk92 rfl rfl dX6_take_2 ?_
  refine lv_icmp_ge (tgt := 43) hx hb dX6_take_5 (by decide) (fun c_1 => ?_) (fun c_1 => ?_)
  · replace h := (if_pos c_1).symm.trans h
    refine lv_aload_n hx hb dX6_take_43 rfl (lv_at hl 0 rfl) ?_
    refine lv_dup hx hb dX6_take_44 rfl ?_
    refine w_get (v := .int (st 10 3)) C hinRX6 hI X.length wM_ob rfl 9 (by decide) lk95 rfl rfl dX6_take_45 ?_
    refine lv_iconst (v := 1) hx hb dX6_take_48 (by decide) ?_
    refine lv_iadd hx hb dX6_take_49 ?_
    refine w_put C hinRX6 tyX6 tyX6_ok nmX6 hI X.length wM_ob rfl 9 h (wM_setob rfl) (by decide) (Nat.le_of_ble_eq_true rfl) lk95 ⟨rfl, rfl⟩ rfl rfl dX6_take_50 (fun st_2 H locs h hI => ?_)
    obtain rfl := ret1 h
    exact hret H locs _ ls hI dX6_take_53
  · replace h := (if_neg c_1).symm.trans h
    refine lv_aload_n hx hb dX6_take_8 rfl (lv_at hl 0 rfl) ?_
    refine lv_iload_n hx hb dX6_take_9 rfl (lv_at hl 1 rfl) ?_
    refine w_put C hinRX6 tyX6 tyX6_ok nmX6 hI X.length wM_ob rfl 8 h (wM_setob rfl) (by decide) (Nat.le_of_ble_eq_true rfl) lk92 ⟨rfl, rfl⟩ rfl rfl dX6_take_10 (fun st_3 H locs h hI => ?_)
    refine lv_aload_n hx hb dX6_take_13 rfl (lv_at hl 0 rfl) ?_
    refine lv_iconst (v := 0) hx hb dX6_take_14 (by decide) ?_
    refine w_put C hinRX6 tyX6 tyX6_ok nmX6 hI X.length wM_ob rfl 9 h (wM_setob rfl) (by decide) (Nat.le_of_ble_eq_true rfl) lk95 ⟨rfl, rfl⟩ rfl rfl dX6_take_15 (fun st_4 H locs h hI => ?_)
    refine lv_iconst (v := 0) hx hb dX6_take_18 (by decide) ?_
    refine lv_istore_n (lv' := [(3, .int 0), (0, .ref (am 0)), (1, .int x1), (2, .int x2)]) hx hb dX6_take_19 rfl hl (by decide) rfl (fun ls hl => ?_)
    refine wl_X6_take_L20 C hret N x2 _ (fun a_8 st_9 H locs ls h hI hl => ?_) N 0 st_4 H locs ls h hI (lv_sub hl [1, 3, 0] rfl)
    refine lv_aload_n hx hb dX6_take_43 rfl (lv_at hl 0 rfl) ?_
    refine lv_dup hx hb dX6_take_44 rfl ?_
    refine w_get (v := .int (st_9 10 3)) C hinRX6 hI X.length wM_ob rfl 9 (by decide) lk95 rfl rfl dX6_take_45 ?_
    refine lv_iconst (v := 1) hx hb dX6_take_48 (by decide) ?_
    refine lv_iadd hx hb dX6_take_49 ?_
    refine w_put C hinRX6 tyX6 tyX6_ok nmX6 hI X.length wM_ob rfl 9 h (wM_setob rfl) (by decide) (Nat.le_of_ble_eq_true rfl) lk95 ⟨rfl, rfl⟩ rfl rfl dX6_take_50 (fun st_10 H locs h hI => ?_)
    obtain rfl := ret1 h
    exact hret H locs _ ls hI dX6_take_53
theorem hv_X6_take : yX6_take.cls = RX6 ∧ yX6_take.cls ≠ "java/lang/invoke/MethodHandle" ∧ yX6_take.cls ≠ "java/lang/invoke/VarHandle" ∧ (parseMethodDescriptor yX6_take.desc).map (fun d => d.parameters.length) = some 2 := by decide +kernel
/-! X6_search -/
def rmX6_search : Room := { frames := 2, cells := 0, slots := 0, locals := 48 }
def f_X6_search_L76 (N : Nat) (x1 : Int32) (x2 : Int32) (x3 : Int32) (x4 : Int32) (st : St) (k : Int32 → Option (St)) : Nat → Int32 → Option (St)
  | 0, _ => none
  | n + 1, x5 => if x2 ≤ x5 then k x5 else if (x4 >>> (x5 &&& 31)) &&& (1 : Int32) = 1 then f_X6_search_L76 N x1 x2 x3 x4 st k n (x5 + 1) else ck 116 (62 + x5) fun j_13 => if (st 0 j_13) &&& (x4 ^^^ (-1 : Int32)) = 0 then ck 11 x3 fun j_15 => bd1 (f_X6_holesOf N st x5 x4 x1) fun r_17 => if (st 8 j_15) + r_17 ≤ st 10 2 then k x5 else f_X6_search_L76 N x1 x2 x3 x4 st k n (x5 + 1) else f_X6_search_L76 N x1 x2 x3 x4 st k n (x5 + 1)
def f_X6_search_L38 (N : Nat) (x1 : Int32) (x2 : Int32) (k : Int32 → Int32 → St → Option (St)) : Nat → Int32 → Int32 → St → Option (St)
  | 0, _, _, _ => none
  | n + 1, x3, x4, st => if x3 < 0 then k x3 x4 st else ck 10 x3 fun j_7 => if st 9 j_7 < 0 then ck 10 x3 fun j_9 => bnd ((st 9 j_9) + 1) fun v_10 => f_X6_search_L76 N x1 x2 x3 x4 st (fun a_19 => if a_19 = x2 then f_X6_search_L38 N x1 x2 k n (x3 + (-1)) x4 st else sto 10 st 9 x3 a_19 fun st_21 => sto 10 st_21 7 x3 a_19 fun st_22 => ck 11 x3 fun j_23 => bd1 (f_X6_holesOf N st_22 a_19 x4 x1) fun r_25 => sto 11 st_22 8 (x3 + 1) ((st_22 8 j_23) + r_25) fun st_26 => bnd (x4 ||| ((1 : Int32) <<< (a_19 &&& 31))) fun v_27 => if x3 + 1 = x2 then ck 11 x2 fun j_30 => bd1 (f_X6_take N st_26 (st_26 8 j_30) x2) fun st_32 => f_X6_search_L38 N x1 x2 k n x3 v_27 st_32 else sto 10 st_26 9 (x3 + 1) (-1 : Int32) fun st_29 => f_X6_search_L38 N x1 x2 k n (x3 + 1) v_27 st_29) N v_10 else ck 10 x3 fun j_33 => bnd (x4 &&& (((1 : Int32) <<< ((st 9 j_33) &&& 31)) ^^^ (-1 : Int32))) fun v_34 => ck 10 x3 fun j_35 => bnd ((st 9 j_35) + 1) fun v_36 => f_X6_search_L76 N x1 x2 x3 v_34 st (fun a_37 => if a_37 = x2 then f_X6_search_L38 N x1 x2 k n (x3 + (-1)) v_34 st else sto 10 st 9 x3 a_37 fun st_39 => sto 10 st_39 7 x3 a_37 fun st_40 => ck 11 x3 fun j_41 => bd1 (f_X6_holesOf N st_40 a_37 v_34 x1) fun r_43 => sto 11 st_40 8 (x3 + 1) ((st_40 8 j_41) + r_43) fun st_44 => bnd (v_34 ||| ((1 : Int32) <<< (a_37 &&& 31))) fun v_45 => if x3 + 1 = x2 then ck 11 x2 fun j_48 => bd1 (f_X6_take N st_44 (st_44 8 j_48) x2) fun st_50 => f_X6_search_L38 N x1 x2 k n x3 v_45 st_50 else sto 10 st_44 9 (x3 + 1) (-1 : Int32) fun st_47 => f_X6_search_L38 N x1 x2 k n (x3 + 1) v_45 st_47) N v_36
def f_X6_search (N : Nat) (st : St) (x1 : Int32) : Option (St) := bnd (st 0 0) fun v_1 => bnd (sU st 10 2 1000) fun st_2 => bnd (sU st_2 10 3 0) fun st_3 => bnd (sU st_3 8 0 0) fun st_4 => bnd (sU st_4 9 0 (-1 : Int32)) fun st_5 => f_X6_search_L38 N x1 v_1 (fun a_51 a_52 st_53 => some st_53) N 0 0 st_5
set_option maxHeartbeats 4000000 in
set_option maxRecDepth 100000 in
theorem wl_X6_search_L76 {p : Program} {l : Launch} {e : Env} {s : State} {m : MethodId} {args : Array Value} {below : List Frame} {meth : Method} {c : Code} {Q : State → Prop} {A : Nat → Prop} {g : GP} {X : va_W} {am : Nat → Nat} {st' : St} (C : Cx p s m args c cX6_search 6 wsX6_search RX6 g A) (hret : RetV p l e rmX6_search s m args below meth c Q cX6_search g A (wMX g X am st')) (N : Nat) (x1 : Int32) (x2 : Int32) (x3 : Int32) (x4 : Int32) (st : St)  (k : Int32 → Option (St)) (hk : ∀ (x5 : Int32) (H : Heap) (locs : List Loc) (ls : Array Slot), k x5 = some st' → IW g A s.heap (wMX g X am st) H locs → lv_has ls 6 [(0, .ref (am 0)), (1, .int x1), (2, .int x2), (3, .int x3), (4, .int x4), (5, .int x5)] → W p l e rmX6_search s m args below meth c H locs 0 0 Q (F0 m 140 ls [])) : ∀ (n : Nat) (x5 : Int32) (H : Heap) (locs : List Loc) (ls : Array Slot), f_X6_search_L76 N x1 x2 x3 x4 st k n x5 = some st' → IW g A s.heap (wMX g X am st) H locs → lv_has ls 6 [(0, .ref (am 0)), (1, .int x1), (2, .int x2), (3, .int x3), (4, .int x4), (5, .int x5)] → W p l e rmX6_search s m args below meth c H locs 0 0 Q (F0 m 76 ls []) := by
  obtain ⟨hx, hb, hml, hown, hts⟩ := id C.1
  have hinRX6 : ∀ w ∈ u_ws RX6 TX6 16, w ∈ wsX6_search := by decide +kernel
  have lk9 := hts (.fieldLink RX6 9 "GraveRowsModel" "now" "[I") (by decide +kernel)
  have lk34 := hts (.fieldLink RX6 34 "GraveRowsModel" "costs" "[I") (by decide +kernel)
  have lk92 := hts (.fieldLink RX6 92 "GraveRowsModel" "least" "I") (by decide +kernel)
  intro n
  induction n with
  | zero =>
    intro x5 H locs ls h hI hl
    rw [f_X6_search_L76] at h
    cases h
  | succ n ih =>
    intro x5 H locs ls h hI hl
    rw [f_X6_search_L76] at h
    refine lv_iload hx hb dX6_search_76 (lv_at hl 5 rfl) ?_
    refine lv_iload_n hx hb dX6_search_78 rfl (lv_at hl 2 rfl) ?_
    refine lv_icmp_ge (tgt := 140) hx hb dX6_search_79 (by decide) (fun c_11 => ?_) (fun c_11 => ?_)
    · replace h := (if_pos c_11).symm.trans h
      exact hk _ _ _ _ h hI (lv_sub hl [0, 1, 2, 3, 4, 5] rfl)
    · replace h := (if_neg c_11).symm.trans h
      refine lv_iload hx hb dX6_search_82 (lv_at hl 4 rfl) ?_
      refine lv_iload hx hb dX6_search_84 (lv_at hl 5 rfl) ?_
      refine lv_ishr hx hb dX6_search_86 ?_
      refine lv_iconst (v := 1) hx hb dX6_search_87 (by decide) ?_
      refine lv_iand hx hb dX6_search_88 ?_
      refine lv_iconst (v := 1) hx hb dX6_search_89 (by decide) ?_
      refine lv_icmp_eq (tgt := 134) hx hb dX6_search_90 (by decide) (fun c_12 => ?_) (fun c_12 => ?_)
      · replace h := (if_pos c_12).symm.trans h
        refine lv_iinc (v := x5 + 1) (lv' := [(5, .int (x5 + 1)), (0, .ref (am 0)), (1, .int x1), (2, .int x2), (3, .int x3), (4, .int x4)]) hx hb dX6_search_134 hl (k := 5) rfl rfl (by decide) rfl (fun ls hl => ?_)
        refine lv_goto (tgt := 76) hx hb dX6_search_137 (by decide) ?_
        exact ih _ _ _ _ h hI (lv_sub hl [1, 2, 3, 4, 5, 0] rfl)
      · replace h := (if_neg c_12).symm.trans h
        refine lv_aload_n hx hb dX6_search_93 rfl (lv_at hl 0 rfl) ?_
        refine w_get (v := .ref (am 1)) C hinRX6 hI X.length wM_ob rfl 0 (by decide) lk9 rfl rfl dX6_search_94 ?_
        refine lv_bipush (v := 62) hx hb dX6_search_97 (by decide) ?_
        refine lv_iload hx hb dX6_search_99 (lv_at hl 5 rfl) ?_
        refine lv_iadd hx hb dX6_search_101 ?_
        refine w_ld C hI (X.length + (0 + 1)) (wM_ar (by decide)) h dX6_search_102 (fun j_13 hj_13 h => ?_)
        refine lv_iload hx hb dX6_search_103 (lv_at hl 4 rfl) ?_
        refine lv_iconst (v := (-1)) hx hb dX6_search_105 (by decide) ?_
        refine lv_ixor hx hb dX6_search_106 ?_
        refine lv_iand hx hb dX6_search_107 ?_
        refine lv_if_ne (tgt := 134) hx hb dX6_search_108 (by decide) (fun c_14 => ?_) (fun c_14 => ?_)
        · replace h := (if_neg c_14).symm.trans h
          refine lv_iinc (v := x5 + 1) (lv' := [(5, .int (x5 + 1)), (0, .ref (am 0)), (1, .int x1), (2, .int x2), (3, .int x3), (4, .int x4)]) hx hb dX6_search_134 hl (k := 5) rfl rfl (by decide) rfl (fun ls hl => ?_)
          refine lv_goto (tgt := 76) hx hb dX6_search_137 (by decide) ?_
          exact ih _ _ _ _ h hI (lv_sub hl [1, 2, 3, 4, 5, 0] rfl)
        · replace h := (if_pos c_14).symm.trans h
          refine lv_aload_n hx hb dX6_search_111 rfl (lv_at hl 0 rfl) ?_
          refine w_get (v := .ref (am 9)) C hinRX6 hI X.length wM_ob rfl 12 (by decide) lk34 rfl rfl dX6_search_112 ?_
          refine lv_iload_n hx hb dX6_search_115 rfl (lv_at hl 3 rfl) ?_
          refine w_ld C hI (X.length + (8 + 1)) (wM_ar (by decide)) h dX6_search_116 (fun j_15 hj_15 h => ?_)
          refine lv_aload_n hx hb dX6_search_117 rfl (lv_at hl 0 rfl) ?_
          refine lv_iload hx hb dX6_search_118 (lv_at hl 5 rfl) ?_
          refine lv_iload hx hb dX6_search_120 (lv_at hl 4 rfl) ?_
          refine lv_iload_n hx hb dX6_search_122 rfl (lv_at hl 1 rfl) ?_
          obtain ⟨r_17, hr_16, h⟩ := bd1_some h
          refine callV_I (rest := [.int (st 8 j_15)]) C hI (c_X6_holesOf l g X am N x5 x4 x1 st hr_16) (cwV 3 hts gX6_search_X6_holesOf rfl rfl rfl hv_X6_holesOf ⟨Nat.le_of_ble_eq_true rfl, Nat.le_of_ble_eq_true rfl⟩) (w_recv C hI X.length wM_ob rfl) rfl hl.1 rfl (Nat.le_of_ble_eq_true rfl) dX6_search_123 (fun H locs hI => ?_)
          refine lv_iadd hx hb dX6_search_126 ?_
          refine lv_aload_n hx hb dX6_search_127 rfl (lv_at hl 0 rfl) ?_
          refine w_get (v := .int (st 10 2)) C hinRX6 hI X.length wM_ob rfl 8 (by decide) lk92 rfl rfl dX6_search_128 ?_
          refine lv_icmp_le (tgt := 140) hx hb dX6_search_131 (by decide) (fun c_18 => ?_) (fun c_18 => ?_)
          · replace h := (if_pos c_18).symm.trans h
            exact hk _ _ _ _ h hI (lv_sub hl [0, 1, 2, 3, 4, 5] rfl)
          · replace h := (if_neg c_18).symm.trans h
            refine lv_iinc (v := x5 + 1) (lv' := [(5, .int (x5 + 1)), (0, .ref (am 0)), (1, .int x1), (2, .int x2), (3, .int x3), (4, .int x4)]) hx hb dX6_search_134 hl (k := 5) rfl rfl (by decide) rfl (fun ls hl => ?_)
            refine lv_goto (tgt := 76) hx hb dX6_search_137 (by decide) ?_
            exact ih _ _ _ _ h hI (lv_sub hl [1, 2, 3, 4, 5, 0] rfl)
set_option maxHeartbeats 4000000 in
set_option maxRecDepth 100000 in
theorem wl_X6_search_L38 {p : Program} {l : Launch} {e : Env} {s : State} {m : MethodId} {args : Array Value} {below : List Frame} {meth : Method} {c : Code} {Q : State → Prop} {A : Nat → Prop} {g : GP} {X : va_W} {am : Nat → Nat} {st' : St} (C : Cx p s m args c cX6_search 6 wsX6_search RX6 g A) (hret : RetV p l e rmX6_search s m args below meth c Q cX6_search g A (wMX g X am st')) (N : Nat) (x1 : Int32) (x2 : Int32)  (k : Int32 → Int32 → St → Option (St)) (hk : ∀ (x3 : Int32) (x4 : Int32) (st : St) (H : Heap) (locs : List Loc) (ls : Array Slot), k x3 x4 st = some st' → IW g A s.heap (wMX g X am st) H locs → lv_has ls 6 [(0, .ref (am 0)), (1, .int x1), (2, .int x2), (3, .int x3), (4, .int x4)] → W p l e rmX6_search s m args below meth c H locs 0 0 Q (F0 m 235 ls [])) : ∀ (n : Nat) (x3 : Int32) (x4 : Int32) (st : St) (H : Heap) (locs : List Loc) (ls : Array Slot), f_X6_search_L38 N x1 x2 k n x3 x4 st = some st' → IW g A s.heap (wMX g X am st) H locs → lv_has ls 6 [(0, .ref (am 0)), (1, .int x1), (2, .int x2), (3, .int x3), (4, .int x4)] → W p l e rmX6_search s m args below meth c H locs 0 0 Q (F0 m 38 ls []) := by
  obtain ⟨hx, hb, hml, hown, hts⟩ := id C.1
  have hinRX6 : ∀ w ∈ u_ws RX6 TX6 16, w ∈ wsX6_search := by decide +kernel
  have lk37 := hts (.fieldLink RX6 37 "GraveRowsModel" "tried" "[I") (by decide +kernel)
  have lk31 := hts (.fieldLink RX6 31 "GraveRowsModel" "row" "[I") (by decide +kernel)
  have lk34 := hts (.fieldLink RX6 34 "GraveRowsModel" "costs" "[I") (by decide +kernel)
  intro n
  induction n with
  | zero =>
    intro x3 x4 st H locs ls h hI hl
    rw [f_X6_search_L38] at h
    cases h
  | succ n ih =>
    intro x3 x4 st H locs ls h hI hl
    rw [f_X6_search_L38] at h
    refine lv_iload_n hx hb dX6_search_38 rfl (lv_at hl 3 rfl) ?_
    refine lv_if_lt (tgt := 235) hx hb dX6_search_39 (by decide) (fun c_6 => ?_) (fun c_6 => ?_)
    · replace h := (if_pos c_6).symm.trans h
      exact hk _ _ _ _ _ _ h hI (lv_sub hl [0, 1, 2, 3, 4] rfl)
    · replace h := (if_neg c_6).symm.trans h
      refine lv_aload_n hx hb dX6_search_42 rfl (lv_at hl 0 rfl) ?_
      refine w_get (v := .ref (am 10)) C hinRX6 hI X.length wM_ob rfl 13 (by decide) lk37 rfl rfl dX6_search_43 ?_
      refine lv_iload_n hx hb dX6_search_46 rfl (lv_at hl 3 rfl) ?_
      refine w_ld C hI (X.length + (9 + 1)) (wM_ar (by decide)) h dX6_search_47 (fun j_7 hj_7 h => ?_)
      refine lv_if_lt (tgt := 66) hx hb dX6_search_48 (by decide) (fun c_8 => ?_) (fun c_8 => ?_)
      · replace h := (if_pos c_8).symm.trans h
        refine lv_aload_n hx hb dX6_search_66 rfl (lv_at hl 0 rfl) ?_
        refine w_get (v := .ref (am 10)) C hinRX6 hI X.length wM_ob rfl 13 (by decide) lk37 rfl rfl dX6_search_67 ?_
        refine lv_iload_n hx hb dX6_search_70 rfl (lv_at hl 3 rfl) ?_
        refine w_ld C hI (X.length + (9 + 1)) (wM_ar (by decide)) h dX6_search_71 (fun j_9 hj_9 h => ?_)
        refine lv_iconst (v := 1) hx hb dX6_search_72 (by decide) ?_
        refine lv_iadd hx hb dX6_search_73 ?_
        refine gen_i h (fun v_10 h => ?_)
        refine lv_istore (lv' := [(5, .int v_10), (0, .ref (am 0)), (1, .int x1), (2, .int x2), (3, .int x3), (4, .int x4)]) hx hb dX6_search_74 hl (by decide) rfl (fun ls hl => ?_)
        refine wl_X6_search_L76 C hret N x1 x2 x3 x4 st _ (fun a_19 H locs ls h hI hl => ?_) N v_10 H locs ls h hI (lv_sub hl [1, 2, 3, 4, 5, 0] rfl)
        refine lv_iload hx hb dX6_search_140 (lv_at hl 5 rfl) ?_
        refine lv_iload_n hx hb dX6_search_142 rfl (lv_at hl 2 rfl) ?_
        refine lv_icmp_ne (tgt := 152) hx hb dX6_search_143 (by decide) (fun c_20 => ?_) (fun c_20 => ?_)
        · replace h := (if_neg c_20).symm.trans h
          refine lv_aload_n hx hb dX6_search_152 rfl (lv_at hl 0 rfl) ?_
          refine w_get (v := .ref (am 10)) C hinRX6 hI X.length wM_ob rfl 13 (by decide) lk37 rfl rfl dX6_search_153 ?_
          refine lv_iload_n hx hb dX6_search_156 rfl (lv_at hl 3 rfl) ?_
          refine lv_iload hx hb dX6_search_157 (lv_at hl 5 rfl) ?_
          refine w_st C hI (X.length + (9 + 1)) (wM_ar (by decide)) (wM_setar (by decide)) h dX6_search_159 (fun st_21 H locs h hI => ?_)
          refine lv_aload_n hx hb dX6_search_160 rfl (lv_at hl 0 rfl) ?_
          refine w_get (v := .ref (am 8)) C hinRX6 hI X.length wM_ob rfl 11 (by decide) lk31 rfl rfl dX6_search_161 ?_
          refine lv_iload_n hx hb dX6_search_164 rfl (lv_at hl 3 rfl) ?_
          refine lv_iload hx hb dX6_search_165 (lv_at hl 5 rfl) ?_
          refine w_st C hI (X.length + (7 + 1)) (wM_ar (by decide)) (wM_setar (by decide)) h dX6_search_167 (fun st_22 H locs h hI => ?_)
          refine lv_aload_n hx hb dX6_search_168 rfl (lv_at hl 0 rfl) ?_
          refine w_get (v := .ref (am 9)) C hinRX6 hI X.length wM_ob rfl 12 (by decide) lk34 rfl rfl dX6_search_169 ?_
          refine lv_iload_n hx hb dX6_search_172 rfl (lv_at hl 3 rfl) ?_
          refine lv_iconst (v := 1) hx hb dX6_search_173 (by decide) ?_
          refine lv_iadd hx hb dX6_search_174 ?_
          refine lv_aload_n hx hb dX6_search_175 rfl (lv_at hl 0 rfl) ?_
          refine w_get (v := .ref (am 9)) C hinRX6 hI X.length wM_ob rfl 12 (by decide) lk34 rfl rfl dX6_search_176 ?_
          refine lv_iload_n hx hb dX6_search_179 rfl (lv_at hl 3 rfl) ?_
          refine w_ld C hI (X.length + (8 + 1)) (wM_ar (by decide)) h dX6_search_180 (fun j_23 hj_23 h => ?_)
          refine lv_aload_n hx hb dX6_search_181 rfl (lv_at hl 0 rfl) ?_
          refine lv_iload hx hb dX6_search_182 (lv_at hl 5 rfl) ?_
          refine lv_iload hx hb dX6_search_184 (lv_at hl 4 rfl) ?_
          refine lv_iload_n hx hb dX6_search_186 rfl (lv_at hl 1 rfl) ?_
          obtain ⟨r_25, hr_24, h⟩ := bd1_some h
          refine callV_I (rest := [.int (st_22 8 j_23), .int (x3 + 1), .ref (am 9)]) C hI (c_X6_holesOf l g X am N a_19 x4 x1 st_22 hr_24) (cwV 3 hts gX6_search_X6_holesOf rfl rfl rfl hv_X6_holesOf ⟨Nat.le_of_ble_eq_true rfl, Nat.le_of_ble_eq_true rfl⟩) (w_recv C hI X.length wM_ob rfl) rfl hl.1 rfl (Nat.le_of_ble_eq_true rfl) dX6_search_187 (fun H locs hI => ?_)
          refine lv_iadd hx hb dX6_search_190 ?_
          refine w_st C hI (X.length + (8 + 1)) (wM_ar (by decide)) (wM_setar (by decide)) h dX6_search_191 (fun st_26 H locs h hI => ?_)
          refine lv_iload hx hb dX6_search_192 (lv_at hl 4 rfl) ?_
          refine lv_iconst (v := 1) hx hb dX6_search_194 (by decide) ?_
          refine lv_iload hx hb dX6_search_195 (lv_at hl 5 rfl) ?_
          refine lv_ishl hx hb dX6_search_197 ?_
          refine lv_ior hx hb dX6_search_198 ?_
          refine gen_i h (fun v_27 h => ?_)
          refine lv_istore (lv' := [(4, .int v_27), (0, .ref (am 0)), (1, .int x1), (2, .int x2), (3, .int x3), (5, .int a_19)]) hx hb dX6_search_199 hl (by decide) rfl (fun ls hl => ?_)
          refine lv_iload_n hx hb dX6_search_201 rfl (lv_at hl 4 rfl) ?_
          refine lv_iconst (v := 1) hx hb dX6_search_202 (by decide) ?_
          refine lv_iadd hx hb dX6_search_203 ?_
          refine lv_iload_n hx hb dX6_search_204 rfl (lv_at hl 3 rfl) ?_
          refine lv_icmp_ne (tgt := 222) hx hb dX6_search_205 (by decide) (fun c_28 => ?_) (fun c_28 => ?_)
          · replace h := (if_neg c_28).symm.trans h
            refine lv_iinc (v := x3 + 1) (lv' := [(3, .int (x3 + 1)), (4, .int v_27), (0, .ref (am 0)), (1, .int x1), (2, .int x2), (5, .int a_19)]) hx hb dX6_search_222 hl (k := 4) rfl rfl (by decide) rfl (fun ls hl => ?_)
            refine lv_aload_n hx hb dX6_search_225 rfl (lv_at hl 2 rfl) ?_
            refine w_get (v := .ref (am 10)) C hinRX6 hI X.length wM_ob rfl 13 (by decide) lk37 rfl rfl dX6_search_226 ?_
            refine lv_iload_n hx hb dX6_search_229 rfl (lv_at hl 0 rfl) ?_
            refine lv_iconst (v := (-1)) hx hb dX6_search_230 (by decide) ?_
            refine w_st C hI (X.length + (9 + 1)) (wM_ar (by decide)) (wM_setar (by decide)) h dX6_search_231 (fun st_29 H locs h hI => ?_)
            refine lv_goto (tgt := 38) hx hb dX6_search_232 (by decide) ?_
            exact ih _ _ _ _ _ _ h hI (lv_sub hl [2, 3, 4, 0, 1] rfl)
          · replace h := (if_pos c_28).symm.trans h
            refine lv_aload_n hx hb dX6_search_208 rfl (lv_at hl 1 rfl) ?_
            refine lv_aload_n hx hb dX6_search_209 rfl (lv_at hl 1 rfl) ?_
            refine w_get (v := .ref (am 9)) C hinRX6 hI X.length wM_ob rfl 12 (by decide) lk34 rfl rfl dX6_search_210 ?_
            refine lv_iload_n hx hb dX6_search_213 rfl (lv_at hl 3 rfl) ?_
            refine w_ld C hI (X.length + (8 + 1)) (wM_ar (by decide)) h dX6_search_214 (fun j_30 hj_30 h => ?_)
            refine lv_iload_n hx hb dX6_search_215 rfl (lv_at hl 3 rfl) ?_
            obtain ⟨st_32, hr_31, h⟩ := bd1_some h
            refine callV_V (rest := []) C hI (c_X6_take l g X am N (st_26 8 j_30) x2 st_26 hr_31) (cwV 2 hts gX6_search_X6_take rfl rfl rfl hv_X6_take ⟨Nat.le_of_ble_eq_true rfl, Nat.le_of_ble_eq_true rfl⟩) (w_recv C hI X.length wM_ob rfl) rfl hl.1 rfl (Nat.le_of_ble_eq_true rfl) dX6_search_216 (fun H locs hI => ?_)
            refine lv_goto (tgt := 232) hx hb dX6_search_219 (by decide) ?_
            refine lv_goto (tgt := 38) hx hb dX6_search_232 (by decide) ?_
            exact ih _ _ _ _ _ _ h hI (lv_sub hl [1, 2, 3, 4, 0] rfl)
        · replace h := (if_pos c_20).symm.trans h
          refine lv_iinc (v := x3 + (-1)) (lv' := [(3, .int (x3 + (-1))), (0, .ref (am 0)), (1, .int x1), (2, .int x2), (4, .int x4), (5, .int a_19)]) hx hb dX6_search_146 hl (k := 3) rfl rfl (by decide) rfl (fun ls hl => ?_)
          refine lv_goto (tgt := 38) hx hb dX6_search_149 (by decide) ?_
          exact ih _ _ _ _ _ _ h hI (lv_sub hl [1, 2, 3, 0, 4] rfl)
      · replace h := (if_neg c_8).symm.trans h
        refine lv_iload hx hb dX6_search_51 (lv_at hl 4 rfl) ?_
        refine lv_iconst (v := 1) hx hb dX6_search_53 (by decide) ?_
        refine lv_aload_n hx hb dX6_search_54 rfl (lv_at hl 0 rfl) ?_
        refine w_get (v := .ref (am 10)) C hinRX6 hI X.length wM_ob rfl 13 (by decide) lk37 rfl rfl dX6_search_55 ?_
        refine lv_iload_n hx hb dX6_search_58 rfl (lv_at hl 3 rfl) ?_
        refine w_ld C hI (X.length + (9 + 1)) (wM_ar (by decide)) h dX6_search_59 (fun j_33 hj_33 h => ?_)
        refine lv_ishl hx hb dX6_search_60 ?_
        refine lv_iconst (v := (-1)) hx hb dX6_search_61 (by decide) ?_
        refine lv_ixor hx hb dX6_search_62 ?_
        refine lv_iand hx hb dX6_search_63 ?_
        refine gen_i h (fun v_34 h => ?_)
        refine lv_istore (lv' := [(4, .int v_34), (0, .ref (am 0)), (1, .int x1), (2, .int x2), (3, .int x3)]) hx hb dX6_search_64 hl (by decide) rfl (fun ls hl => ?_)
        refine lv_aload_n hx hb dX6_search_66 rfl (lv_at hl 1 rfl) ?_
        refine w_get (v := .ref (am 10)) C hinRX6 hI X.length wM_ob rfl 13 (by decide) lk37 rfl rfl dX6_search_67 ?_
        refine lv_iload_n hx hb dX6_search_70 rfl (lv_at hl 4 rfl) ?_
        refine w_ld C hI (X.length + (9 + 1)) (wM_ar (by decide)) h dX6_search_71 (fun j_35 hj_35 h => ?_)
        refine lv_iconst (v := 1) hx hb dX6_search_72 (by decide) ?_
        refine lv_iadd hx hb dX6_search_73 ?_
        refine gen_i h (fun v_36 h => ?_)
        refine lv_istore (lv' := [(5, .int v_36), (4, .int v_34), (0, .ref (am 0)), (1, .int x1), (2, .int x2), (3, .int x3)]) hx hb dX6_search_74 hl (by decide) rfl (fun ls hl => ?_)
        refine wl_X6_search_L76 C hret N x1 x2 x3 v_34 st _ (fun a_37 H locs ls h hI hl => ?_) N v_36 H locs ls h hI (lv_sub hl [2, 3, 4, 5, 1, 0] rfl)
        refine lv_iload hx hb dX6_search_140 (lv_at hl 5 rfl) ?_
        refine lv_iload_n hx hb dX6_search_142 rfl (lv_at hl 2 rfl) ?_
        refine lv_icmp_ne (tgt := 152) hx hb dX6_search_143 (by decide) (fun c_38 => ?_) (fun c_38 => ?_)
        · replace h := (if_neg c_38).symm.trans h
          refine lv_aload_n hx hb dX6_search_152 rfl (lv_at hl 0 rfl) ?_
          refine w_get (v := .ref (am 10)) C hinRX6 hI X.length wM_ob rfl 13 (by decide) lk37 rfl rfl dX6_search_153 ?_
          refine lv_iload_n hx hb dX6_search_156 rfl (lv_at hl 3 rfl) ?_
          refine lv_iload hx hb dX6_search_157 (lv_at hl 5 rfl) ?_
          refine w_st C hI (X.length + (9 + 1)) (wM_ar (by decide)) (wM_setar (by decide)) h dX6_search_159 (fun st_39 H locs h hI => ?_)
          refine lv_aload_n hx hb dX6_search_160 rfl (lv_at hl 0 rfl) ?_
          refine w_get (v := .ref (am 8)) C hinRX6 hI X.length wM_ob rfl 11 (by decide) lk31 rfl rfl dX6_search_161 ?_
          refine lv_iload_n hx hb dX6_search_164 rfl (lv_at hl 3 rfl) ?_
          refine lv_iload hx hb dX6_search_165 (lv_at hl 5 rfl) ?_
          refine w_st C hI (X.length + (7 + 1)) (wM_ar (by decide)) (wM_setar (by decide)) h dX6_search_167 (fun st_40 H locs h hI => ?_)
          refine lv_aload_n hx hb dX6_search_168 rfl (lv_at hl 0 rfl) ?_
          refine w_get (v := .ref (am 9)) C hinRX6 hI X.length wM_ob rfl 12 (by decide) lk34 rfl rfl dX6_search_169 ?_
          refine lv_iload_n hx hb dX6_search_172 rfl (lv_at hl 3 rfl) ?_
          refine lv_iconst (v := 1) hx hb dX6_search_173 (by decide) ?_
          refine lv_iadd hx hb dX6_search_174 ?_
          refine lv_aload_n hx hb dX6_search_175 rfl (lv_at hl 0 rfl) ?_
          refine w_get (v := .ref (am 9)) C hinRX6 hI X.length wM_ob rfl 12 (by decide) lk34 rfl rfl dX6_search_176 ?_
          refine lv_iload_n hx hb dX6_search_179 rfl (lv_at hl 3 rfl) ?_
          refine w_ld C hI (X.length + (8 + 1)) (wM_ar (by decide)) h dX6_search_180 (fun j_41 hj_41 h => ?_)
          refine lv_aload_n hx hb dX6_search_181 rfl (lv_at hl 0 rfl) ?_
          refine lv_iload hx hb dX6_search_182 (lv_at hl 5 rfl) ?_
          refine lv_iload hx hb dX6_search_184 (lv_at hl 4 rfl) ?_
          refine lv_iload_n hx hb dX6_search_186 rfl (lv_at hl 1 rfl) ?_
          obtain ⟨r_43, hr_42, h⟩ := bd1_some h
          refine callV_I (rest := [.int (st_40 8 j_41), .int (x3 + 1), .ref (am 9)]) C hI (c_X6_holesOf l g X am N a_37 v_34 x1 st_40 hr_42) (cwV 3 hts gX6_search_X6_holesOf rfl rfl rfl hv_X6_holesOf ⟨Nat.le_of_ble_eq_true rfl, Nat.le_of_ble_eq_true rfl⟩) (w_recv C hI X.length wM_ob rfl) rfl hl.1 rfl (Nat.le_of_ble_eq_true rfl) dX6_search_187 (fun H locs hI => ?_)
          refine lv_iadd hx hb dX6_search_190 ?_
          refine w_st C hI (X.length + (8 + 1)) (wM_ar (by decide)) (wM_setar (by decide)) h dX6_search_191 (fun st_44 H locs h hI => ?_)
          refine lv_iload hx hb dX6_search_192 (lv_at hl 4 rfl) ?_
          refine lv_iconst (v := 1) hx hb dX6_search_194 (by decide) ?_
          refine lv_iload hx hb dX6_search_195 (lv_at hl 5 rfl) ?_
          refine lv_ishl hx hb dX6_search_197 ?_
          refine lv_ior hx hb dX6_search_198 ?_
          refine gen_i h (fun v_45 h => ?_)
          refine lv_istore (lv' := [(4, .int v_45), (0, .ref (am 0)), (1, .int x1), (2, .int x2), (3, .int x3), (5, .int a_37)]) hx hb dX6_search_199 hl (by decide) rfl (fun ls hl => ?_)
          refine lv_iload_n hx hb dX6_search_201 rfl (lv_at hl 4 rfl) ?_
          refine lv_iconst (v := 1) hx hb dX6_search_202 (by decide) ?_
          refine lv_iadd hx hb dX6_search_203 ?_
          refine lv_iload_n hx hb dX6_search_204 rfl (lv_at hl 3 rfl) ?_
          refine lv_icmp_ne (tgt := 222) hx hb dX6_search_205 (by decide) (fun c_46 => ?_) (fun c_46 => ?_)
          · replace h := (if_neg c_46).symm.trans h
            refine lv_iinc (v := x3 + 1) (lv' := [(3, .int (x3 + 1)), (4, .int v_45), (0, .ref (am 0)), (1, .int x1), (2, .int x2), (5, .int a_37)]) hx hb dX6_search_222 hl (k := 4) rfl rfl (by decide) rfl (fun ls hl => ?_)
            refine lv_aload_n hx hb dX6_search_225 rfl (lv_at hl 2 rfl) ?_
            refine w_get (v := .ref (am 10)) C hinRX6 hI X.length wM_ob rfl 13 (by decide) lk37 rfl rfl dX6_search_226 ?_
            refine lv_iload_n hx hb dX6_search_229 rfl (lv_at hl 0 rfl) ?_
            refine lv_iconst (v := (-1)) hx hb dX6_search_230 (by decide) ?_
            refine w_st C hI (X.length + (9 + 1)) (wM_ar (by decide)) (wM_setar (by decide)) h dX6_search_231 (fun st_47 H locs h hI => ?_)
            refine lv_goto (tgt := 38) hx hb dX6_search_232 (by decide) ?_
            exact ih _ _ _ _ _ _ h hI (lv_sub hl [2, 3, 4, 0, 1] rfl)
          · replace h := (if_pos c_46).symm.trans h
            refine lv_aload_n hx hb dX6_search_208 rfl (lv_at hl 1 rfl) ?_
            refine lv_aload_n hx hb dX6_search_209 rfl (lv_at hl 1 rfl) ?_
            refine w_get (v := .ref (am 9)) C hinRX6 hI X.length wM_ob rfl 12 (by decide) lk34 rfl rfl dX6_search_210 ?_
            refine lv_iload_n hx hb dX6_search_213 rfl (lv_at hl 3 rfl) ?_
            refine w_ld C hI (X.length + (8 + 1)) (wM_ar (by decide)) h dX6_search_214 (fun j_48 hj_48 h => ?_)
            refine lv_iload_n hx hb dX6_search_215 rfl (lv_at hl 3 rfl) ?_
            obtain ⟨st_50, hr_49, h⟩ := bd1_some h
            refine callV_V (rest := []) C hI (c_X6_take l g X am N (st_44 8 j_48) x2 st_44 hr_49) (cwV 2 hts gX6_search_X6_take rfl rfl rfl hv_X6_take ⟨Nat.le_of_ble_eq_true rfl, Nat.le_of_ble_eq_true rfl⟩) (w_recv C hI X.length wM_ob rfl) rfl hl.1 rfl (Nat.le_of_ble_eq_true rfl) dX6_search_216 (fun H locs hI => ?_)
            refine lv_goto (tgt := 232) hx hb dX6_search_219 (by decide) ?_
            refine lv_goto (tgt := 38) hx hb dX6_search_232 (by decide) ?_
            exact ih _ _ _ _ _ _ h hI (lv_sub hl [1, 2, 3, 4, 0] rfl)
        · replace h := (if_pos c_38).symm.trans h
          refine lv_iinc (v := x3 + (-1)) (lv' := [(3, .int (x3 + (-1))), (0, .ref (am 0)), (1, .int x1), (2, .int x2), (4, .int v_34), (5, .int a_37)]) hx hb dX6_search_146 hl (k := 3) rfl rfl (by decide) rfl (fun ls hl => ?_)
          refine lv_goto (tgt := 38) hx hb dX6_search_149 (by decide) ?_
          exact ih _ _ _ _ _ _ h hI (lv_sub hl [1, 2, 3, 0, 4] rfl)
set_option maxHeartbeats 4000000 in
set_option maxRecDepth 100000 in
theorem c_X6_search (l : Launch) (g : GP) (X : va_W) (am : Nat → Nat) (N : Nat) (x1 : Int32)  (st : St) {st' : St} (h : f_X6_search N st x1 = some st') : MetV l yX6_search wsX6_search rmX6_search g (wMX g X am) [.ref (am 0), .int x1] st st' := by
  refine metV_of (cc := cX6_search) (nL := 6) (by decide) rfl (Nat.le_of_ble_eq_true rfl) ?_
  intro p e s m below meth c Q A C hret H locs hI ls hl
  have C : Cx p s m _ c cX6_search 6 wsX6_search RX6 g A := C
  obtain ⟨hx, hb, hml, hown, hts⟩ := id C.1
  have hl : lv_has ls 6 [(0, .ref (am 0)), (1, .int x1)] := hl
  have hinRX6 : ∀ w ∈ u_ws RX6 TX6 16, w ∈ wsX6_search := by decide +kernel
  have lk9 := hts (.fieldLink RX6 9 "GraveRowsModel" "now" "[I") (by decide +kernel)
  have lk92 := hts (.fieldLink RX6 92 "GraveRowsModel" "least" "I") (by decide +kernel)
  have lk95 := hts (.fieldLink RX6 95 "GraveRowsModel" "ways" "I") (by decide +kernel)
  have lk34 := hts (.fieldLink RX6 34 "GraveRowsModel" "costs" "[I") (by decide +kernel)
  have lk37 := hts (.fieldLink RX6 37 "GraveRowsModel" "tried" "[I") (by decide +kernel)
  rw [f_X6_search] at h
  refine lv_aload_n hx hb dX6_search_0 rfl (lv_at hl 0 rfl) ?_
  refine w_get (v := .ref (am 1)) C hinRX6 hI X.length wM_ob rfl 0 (by decide) lk9 rfl rfl dX6_search_1 ?_
  refine lv_iconst (v := 0) hx hb dX6_search_4 (by decide) ?_
  refine w_ldK C hI (X.length + (0 + 1)) (wM_ar (by decide)) 0 (by decide) (by decide) dX6_search_5 ?_
  refine gen_i h (fun v_1 h => ?_)
  refine lv_istore_n (lv' := [(2, .int v_1), (0, .ref (am 0)), (1, .int x1)]) hx hb dX6_search_6 rfl hl (by decide) rfl (fun ls hl => ?_)
  refine lv_aload_n hx hb dX6_search_7 rfl (lv_at hl 1 rfl) ?_
  refine lv_sipush (v := 1000) hx hb dX6_search_8 (by decide) ?_
  refine w_put C hinRX6 tyX6 tyX6_ok nmX6 hI X.length wM_ob rfl 8 h (wM_setob rfl) (by decide) (Nat.le_of_ble_eq_true rfl) lk92 ⟨rfl, rfl⟩ rfl rfl dX6_search_11 (fun st_2 H locs h hI => ?_)
  refine lv_aload_n hx hb dX6_search_14 rfl (lv_at hl 1 rfl) ?_
  refine lv_iconst (v := 0) hx hb dX6_search_15 (by decide) ?_
  refine w_put C hinRX6 tyX6 tyX6_ok nmX6 hI X.length wM_ob rfl 9 h (wM_setob rfl) (by decide) (Nat.le_of_ble_eq_true rfl) lk95 ⟨rfl, rfl⟩ rfl rfl dX6_search_16 (fun st_3 H locs h hI => ?_)
  refine lv_iconst (v := 0) hx hb dX6_search_19 (by decide) ?_
  refine lv_istore_n (lv' := [(3, .int 0), (2, .int v_1), (0, .ref (am 0)), (1, .int x1)]) hx hb dX6_search_20 rfl hl (by decide) rfl (fun ls hl => ?_)
  refine lv_iconst (v := 0) hx hb dX6_search_21 (by decide) ?_
  refine lv_istore (lv' := [(4, .int 0), (3, .int 0), (2, .int v_1), (0, .ref (am 0)), (1, .int x1)]) hx hb dX6_search_22 hl (by decide) rfl (fun ls hl => ?_)
  refine lv_aload_n hx hb dX6_search_24 rfl (lv_at hl 3 rfl) ?_
  refine w_get (v := .ref (am 9)) C hinRX6 hI X.length wM_ob rfl 12 (by decide) lk34 rfl rfl dX6_search_25 ?_
  refine lv_iconst (v := 0) hx hb dX6_search_28 (by decide) ?_
  refine lv_iconst (v := 0) hx hb dX6_search_29 (by decide) ?_
  refine w_stK C hI (X.length + (8 + 1)) (wM_ar (by decide)) (wM_setar (by decide)) 0 h (by decide) (by decide) dX6_search_30 (fun st_4 H locs h hI => ?_)
  refine lv_aload_n hx hb dX6_search_31 rfl (lv_at hl 3 rfl) ?_
  refine w_get (v := .ref (am 10)) C hinRX6 hI X.length wM_ob rfl 13 (by decide) lk37 rfl rfl dX6_search_32 ?_
  refine lv_iconst (v := 0) hx hb dX6_search_35 (by decide) ?_
  refine lv_iconst (v := (-1)) hx hb dX6_search_36 (by decide) ?_
  refine w_stK C hI (X.length + (9 + 1)) (wM_ar (by decide)) (wM_setar (by decide)) 0 h (by decide) (by decide) dX6_search_37 (fun st_5 H locs h hI => ?_)
  refine wl_X6_search_L38 C hret N x1 v_1 _ (fun a_51 a_52 st_53 H locs ls h hI hl => ?_) N 0 0 st_5 H locs ls h hI (lv_sub hl [3, 4, 2, 1, 0] rfl)
  obtain rfl := ret1 h
  exact hret H locs _ ls hI dX6_search_235
theorem hv_X6_search : yX6_search.cls = RX6 ∧ yX6_search.cls ≠ "java/lang/invoke/MethodHandle" ∧ yX6_search.cls ≠ "java/lang/invoke/VarHandle" ∧ (parseMethodDescriptor yX6_search.desc).map (fun d => d.parameters.length) = some 1 := by decide +kernel
