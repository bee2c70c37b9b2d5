/-! X6_finding -/
def rmX6_finding : Room := { frames := 0, cells := 0, slots := 0, locals := 0 }
def f_X6_finding (st : St) (x1 : Int32) : Option (Int32 × St) := bnd (sU st 10 1 ((st 10 1) + 1)) fun st_1 => some (x1, st_1)
set_option maxHeartbeats 4000000 in
set_option maxRecDepth 100000 in
theorem c_X6_finding (l : Launch) (g : GP) (X : va_W) (am : Nat → Nat) (x1 : Int32)  (st : St) {r : Int32} {st' : St} (h : f_X6_finding st x1 = some (r, st')) : MetI l yX6_finding wsX6_finding rmX6_finding g (wMX g X am) [.ref (am 0), .int x1] st (r) st' := by
  refine metI_of (cc := cX6_finding) (nL := 2) (ty := .int) (by decide) rfl (Nat.le_of_ble_eq_true rfl) rfl ?_
  intro p e s m below meth c Q A C hret H locs hI ls hl
  have C : Cx p s m _ c cX6_finding 2 wsX6_finding RX6 g A := C
  obtain ⟨hx, hb, hml, hown, hts⟩ := id C.1
  have hl : lv_has ls 2 [(0, .ref (am 0)), (1, .int x1)] := hl
  have hinRX6 : ∀ w ∈ u_ws RX6 TX6 16, w ∈ wsX6_finding := by decide +kernel
  have lk40 := hts (.fieldLink RX6 40 "GraveRowsModel" "findings" "I") (by decide +kernel)
  rw [f_X6_finding] at h
  refine lv_aload_n hx hb dX6_finding_0 rfl (lv_at hl 0 rfl) ?_
  refine lv_dup hx hb dX6_finding_1 rfl ?_
  refine w_get (v := .int (st 10 1)) C hinRX6 hI X.length wM_ob rfl 3 (by decide) lk40 rfl rfl dX6_finding_2 ?_
  refine lv_iconst (v := 1) hx hb dX6_finding_5 (by decide) ?_
  refine lv_iadd hx hb dX6_finding_6 ?_
  refine w_put C hinRX6 tyX6 tyX6_ok nmX6 hI X.length wM_ob rfl 3 h (wM_setob rfl) (by decide) (Nat.le_of_ble_eq_true rfl) lk40 ⟨rfl, rfl⟩ rfl rfl dX6_finding_7 (fun st_1 H locs h hI => ?_)
  refine lv_iload_n hx hb dX6_finding_10 rfl (lv_at hl 1 rfl) ?_
  obtain ⟨rfl, rfl⟩ := ret2 h
  exact hret H locs _ ls hI dX6_finding_11
theorem hv_X6_finding : yX6_finding.cls = RX6 ∧ yX6_finding.cls ≠ "java/lang/invoke/MethodHandle" ∧ yX6_finding.cls ≠ "java/lang/invoke/VarHandle" ∧ (parseMethodDescriptor yX6_finding.desc).map (fun d => d.parameters.length) = some 1 := by decide +kernel
/-! X6_within -/
def rmX6_within : Room := { frames := 0, cells := 0, slots := 0, locals := 0 }
def f_X6_within (x0 : Int32) (x1 : Int32) (x2 : Int32) : Bool := if x0 < x1 then false else if x2 < x0 then false else true
set_option maxHeartbeats 4000000 in
set_option maxRecDepth 100000 in
theorem c_X6_within (l : Launch) (x0 : Int32) (x1 : Int32) (x2 : Int32) : MetS l yX6_within wsX6_within rmX6_within [.int x0, .int x1, .int x2] (b2i (f_X6_within x0 x1 x2)) := by
  refine metS_of (cc := cX6_within) (nL := 3) (ty := .boolean) (by decide) rfl (Nat.le_of_ble_eq_true rfl) (nar_b _) ?_
  intro p e s m below meth c Q C hret ls hl
  have C : CallFix p m c cX6_within 3 s _ wsX6_within RX6 := C
  obtain ⟨hx, hb, hml, hown, hts⟩ := id C
  have hl : lv_has ls 3 [(0, .int x0), (1, .int x1), (2, .int x2)] := hl
  generalize hgen : f_X6_within x0 x1 x2 = r at hret
  have h := hgen
  rw [f_X6_within] at h
  refine lv_iload_n hx hb dX6_within_0 rfl (lv_at hl 0 rfl) ?_
  refine lv_iload_n hx hb dX6_within_1 rfl (lv_at hl 1 rfl) ?_
  refine lv_icmp_lt (tgt := 14) hx hb dX6_within_2 (by decide) (fun c_1 => ?_) (fun c_1 => ?_)
  · replace h := (if_pos c_1).symm.trans h
    refine lv_iconst (v := 0) hx hb dX6_within_14 (by decide) ?_
    subst h
    exact hret _ ls dX6_within_15
  · replace h := (if_neg c_1).symm.trans h
    refine lv_iload_n hx hb dX6_within_5 rfl (lv_at hl 0 rfl) ?_
    refine lv_iload_n hx hb dX6_within_6 rfl (lv_at hl 2 rfl) ?_
    refine lv_icmp_gt (tgt := 14) hx hb dX6_within_7 (by decide) (fun c_2 => ?_) (fun c_2 => ?_)
    · replace h := (if_pos c_2).symm.trans h
      refine lv_iconst (v := 0) hx hb dX6_within_14 (by decide) ?_
      subst h
      exact hret _ ls dX6_within_15
    · replace h := (if_neg c_2).symm.trans h
      refine lv_iconst (v := 1) hx hb dX6_within_10 (by decide) ?_
      refine lv_goto (tgt := 15) hx hb dX6_within_11 (by decide) ?_
      subst h
      exact hret _ ls dX6_within_15
theorem hd_X6_within : yX6_within.cls ≠ "java/lang/invoke/MethodHandle" ∧ yX6_within.cls ≠ "java/lang/invoke/VarHandle" ∧ (parseMethodDescriptor yX6_within.desc).map (fun d => d.parameters.length) = some 3 := by decide +kernel
/-! X6_isGrave -/
def rmX6_isGrave : Room := { frames := 1, cells := 0, slots := 0, locals := 22 }
def f_X6_isGrave (st : St) (x1 : Int32) : Bool := bnd (f_X6_within x1 0 ((st 0 0) - 1)) fun r_1 => r_1
set_option maxHeartbeats 4000000 in
set_option maxRecDepth 100000 in
theorem c_X6_isGrave (l : Launch) (g : GP) (X : va_W) (am : Nat → Nat) (x1 : Int32)  (st : St) : MetI l yX6_isGrave wsX6_isGrave rmX6_isGrave g (wMX g X am) [.ref (am 0), .int x1] st (b2i (f_X6_isGrave st x1)) st := by
  refine metI_of (cc := cX6_isGrave) (nL := 2) (ty := .boolean) (by decide) rfl (Nat.le_of_ble_eq_true rfl) (nar_b _) ?_
  intro p e s m below meth c Q A C hret H locs hI ls hl
  have C : Cx p s m _ c cX6_isGrave 2 wsX6_isGrave RX6 g A := C
  obtain ⟨hx, hb, hml, hown, hts⟩ := id C.1
  have hl : lv_has ls 2 [(0, .ref (am 0)), (1, .int x1)] := hl
  have hinRX6 : ∀ w ∈ u_ws RX6 TX6 16, w ∈ wsX6_isGrave := by decide +kernel
  have lk9 := hts (.fieldLink RX6 9 "GraveRowsModel" "now" "[I") (by decide +kernel)
  generalize hgen : f_X6_isGrave st x1 = r at hret
  have h := hgen
  rw [f_X6_isGrave] at h
  refine lv_iload_n hx hb dX6_isGrave_0 rfl (lv_at hl 1 rfl) ?_
  refine lv_iconst (v := 0) hx hb dX6_isGrave_1 (by decide) ?_
  refine lv_aload_n hx hb dX6_isGrave_2 rfl (lv_at hl 0 rfl) ?_
  refine w_get (v := .ref (am 1)) C hinRX6 hI X.length wM_ob rfl 0 (by decide) lk9 rfl rfl dX6_isGrave_3 ?_
  refine lv_iconst (v := 0) hx hb dX6_isGrave_6 (by decide) ?_
  refine w_ldK C hI (X.length + (0 + 1)) (wM_ar (by decide)) 0 (by decide) (by decide) dX6_isGrave_7 ?_
  refine lv_iconst (v := 1) hx hb dX6_isGrave_8 (by decide) ?_
  refine lv_isub hx hb dX6_isGrave_9 ?_
  refine callS_S (rest := []) C.1 (c_X6_within l x1 0 ((st 0 0) - 1)) (va_cwS 3 hts gX6_isGrave_X6_within rfl rfl rfl hd_X6_within ⟨Nat.le_of_ble_eq_true rfl, Nat.le_of_ble_eq_true rfl⟩) rfl hl.1 rfl (Nat.le_of_ble_eq_true rfl) dX6_isGrave_10 ?_
  refine gen_b h (fun r_1 h => ?_)
  subst h
  exact hret H locs _ ls hI dX6_isGrave_13
theorem hv_X6_isGrave : yX6_isGrave.cls = RX6 ∧ yX6_isGrave.cls ≠ "java/lang/invoke/MethodHandle" ∧ yX6_isGrave.cls ≠ "java/lang/invoke/VarHandle" ∧ (parseMethodDescriptor yX6_isGrave.desc).map (fun d => d.parameters.length) = some 1 := by decide +kernel
/-! X6_isGood -/
def rmX6_isGood : Room := { frames := 1, cells := 0, slots := 0, locals := 22 }
def f_X6_isGood (x0 : Int32) : Bool := bnd (f_X6_within x0 0 11) fun r_1 => r_1
set_option maxHeartbeats 4000000 in
set_option maxRecDepth 100000 in
theorem c_X6_isGood (l : Launch) (x0 : Int32) : MetS l yX6_isGood wsX6_isGood rmX6_isGood [.int x0] (b2i (f_X6_isGood x0)) := by
  refine metS_of (cc := cX6_isGood) (nL := 1) (ty := .boolean) (by decide) rfl (Nat.le_of_ble_eq_true rfl) (nar_b _) ?_
  intro p e s m below meth c Q C hret ls hl
  have C : CallFix p m c cX6_isGood 1 s _ wsX6_isGood RX6 := C
  obtain ⟨hx, hb, hml, hown, hts⟩ := id C
  have hl : lv_has ls 1 [(0, .int x0)] := hl
  generalize hgen : f_X6_isGood x0 = r at hret
  have h := hgen
  rw [f_X6_isGood] at h
  refine lv_iload_n hx hb dX6_isGood_0 rfl (lv_at hl 0 rfl) ?_
  refine lv_iconst (v := 0) hx hb dX6_isGood_1 (by decide) ?_
  refine lv_bipush (v := 11) hx hb dX6_isGood_2 (by decide) ?_
  refine callS_S (rest := []) C (c_X6_within l x0 0 11) (va_cwS 3 hts gX6_isGood_X6_within rfl rfl rfl hd_X6_within ⟨Nat.le_of_ble_eq_true rfl, Nat.le_of_ble_eq_true rfl⟩) rfl hl.1 rfl (Nat.le_of_ble_eq_true rfl) dX6_isGood_4 ?_
  refine gen_b h (fun r_1 h => ?_)
  subst h
  exact hret _ ls dX6_isGood_7
theorem hd_X6_isGood : yX6_isGood.cls ≠ "java/lang/invoke/MethodHandle" ∧ yX6_isGood.cls ≠ "java/lang/invoke/VarHandle" ∧ (parseMethodDescriptor yX6_isGood.desc).map (fun d => d.parameters.length) = some 1 := by decide +kernel
/-! X6_many -/
def rmX6_many : Room := { frames := 0, cells := 0, slots := 0, locals := 0 }
def f_X6_many_L4 (N : Nat) (x0 : Int32) (k : Int32 → Int32 → Option (Int32)) : Nat → Int32 → Int32 → Option (Int32)
  | 0, _, _ => none
  | n + 1, x1, x2 => if 32 ≤ x2 then k x1 x2 else bnd (x1 + ((ush x0 x2) &&& (1 : Int32))) fun v_2 => f_X6_many_L4 N x0 k n v_2 (x2 + 1)
def f_X6_many (N : Nat) (x0 : Int32) : Option (Int32) := f_X6_many_L4 N x0 (fun a_3 a_4 => some a_3) N 0 0
set_option maxHeartbeats 4000000 in
set_option maxRecDepth 100000 in
theorem wl_X6_many_L4 {p : Program} {l : Launch} {e : Env} {s : State} {m : MethodId} {args : Array Value} {below : List Frame} {meth : Method} {c : Code} {Q : State → Prop} {r : Int32}  (C : CallFix p m c cX6_many 3 s args wsX6_many RX6) (hret : RetS p l e rmX6_many s m args below meth c Q cX6_many (r)) (N : Nat) (x0 : Int32)  (k : Int32 → Int32 → Option (Int32)) (hk : ∀ (x1 : Int32) (x2 : Int32) (ls : Array Slot), k x1 x2 = some r → lv_has ls 3 [(0, .int x0), (1, .int x1), (2, .int x2)] → W p l e rmX6_many s m args below meth c s.heap [] 0 0 Q (F0 m 24 ls [])) : ∀ (n : Nat) (x1 : Int32) (x2 : Int32) (ls : Array Slot), f_X6_many_L4 N x0 k n x1 x2 = some r → lv_has ls 3 [(0, .int x0), (1, .int x1), (2, .int x2)] → W p l e rmX6_many s m args below meth c s.heap [] 0 0 Q (F0 m 4 ls []) := by
  obtain ⟨hx, hb, hml, hown, hts⟩ := id C
  intro n
  induction n with
  | zero =>
    intro x1 x2 ls h hl
    rw [f_X6_many_L4] at h
    cases h
  | succ n ih =>
    intro x1 x2 ls h hl
    rw [f_X6_many_L4] at h
    refine lv_iload_n hx hb dX6_many_4 rfl (lv_at hl 2 rfl) ?_
    refine lv_bipush (v := 32) hx hb dX6_many_5 (by decide) ?_
    refine lv_icmp_ge (tgt := 24) hx hb dX6_many_7 (by decide) (fun c_1 => ?_) (fun c_1 => ?_)
    · replace h := (if_pos c_1).symm.trans h
      exact hk _ _ _ h (lv_sub hl [0, 1, 2] rfl)
    · replace h := (if_neg c_1).symm.trans h
      refine lv_iload_n hx hb dX6_many_10 rfl (lv_at hl 1 rfl) ?_
      refine lv_iload_n hx hb dX6_many_11 rfl (lv_at hl 0 rfl) ?_
      refine lv_iload_n hx hb dX6_many_12 rfl (lv_at hl 2 rfl) ?_
      refine lv_iushr (v := ush x0 x2) hx hb dX6_many_13 rfl ?_
      refine lv_iconst (v := 1) hx hb dX6_many_14 (by decide) ?_
      refine lv_iand hx hb dX6_many_15 ?_
      refine lv_iadd hx hb dX6_many_16 ?_
      refine gen_i h (fun v_2 h => ?_)
      refine lv_istore_n (lv' := [(1, .int v_2), (0, .int x0), (2, .int x2)]) hx hb dX6_many_17 rfl hl (by decide) rfl (fun ls hl => ?_)
      refine lv_iinc (v := x2 + 1) (lv' := [(2, .int (x2 + 1)), (1, .int v_2), (0, .int x0)]) hx hb dX6_many_18 hl (k := 2) rfl rfl (by decide) rfl (fun ls hl => ?_)
      refine lv_goto (tgt := 4) hx hb dX6_many_21 (by decide) ?_
      exact ih _ _ _ h (lv_sub hl [2, 1, 0] rfl)
set_option maxHeartbeats 4000000 in
set_option maxRecDepth 100000 in
theorem c_X6_many (l : Launch) (N : Nat) (x0 : Int32) {r : Int32}  (h : f_X6_many N x0 = some r) : MetS l yX6_many wsX6_many rmX6_many [.int x0] (r) := by
  refine metS_of (cc := cX6_many) (nL := 3) (ty := .int) (by decide) rfl (Nat.le_of_ble_eq_true rfl) rfl ?_
  intro p e s m below meth c Q C hret ls hl
  have C : CallFix p m c cX6_many 3 s _ wsX6_many RX6 := C
  obtain ⟨hx, hb, hml, hown, hts⟩ := id C
  have hl : lv_has ls 3 [(0, .int x0)] := hl
  rw [f_X6_many] at h
  refine lv_iconst (v := 0) hx hb dX6_many_0 (by decide) ?_
  refine lv_istore_n (lv' := [(1, .int 0), (0, .int x0)]) hx hb dX6_many_1 rfl hl (by decide) rfl (fun ls hl => ?_)
  refine lv_iconst (v := 0) hx hb dX6_many_2 (by decide) ?_
  refine lv_istore_n (lv' := [(2, .int 0), (1, .int 0), (0, .int x0)]) hx hb dX6_many_3 rfl hl (by decide) rfl (fun ls hl => ?_)
  refine wl_X6_many_L4 C hret N x0 _ (fun a_3 a_4 ls h hl => ?_) N 0 0 ls h (lv_sub hl [2, 1, 0] rfl)
  refine lv_iload_n hx hb dX6_many_24 rfl (lv_at hl 1 rfl) ?_
  obtain rfl := ret1 h
  exact hret _ ls dX6_many_25
theorem hd_X6_many : yX6_many.cls ≠ "java/lang/invoke/MethodHandle" ∧ yX6_many.cls ≠ "java/lang/invoke/VarHandle" ∧ (parseMethodDescriptor yX6_many.desc).map (fun d => d.parameters.length) = some 1 := by decide +kernel
/-! X6_grave -/
def rmX6_grave : Room := { frames := 1, cells := 0, slots := 0, locals := 22 }
def f_X6_grave (st : St) (x1 : Int32) (x2 : Int32) (x3 : Int32) : Option (Int32 × St) := bnd (f_X6_within x1 0 3) fun r_1 => if b2i r_1 = 0 then bd2 (f_X6_finding st (-100001 : Int32)) fun r_4 st_5 => some (r_4, st_5) else bnd (f_X6_within x2 0 99) fun r_6 => if b2i r_6 = 0 then bd2 (f_X6_finding st (-100001 : Int32)) fun r_9 st_10 => some (r_9, st_10) else bnd (f_X6_within x3 0 99) fun r_11 => if b2i r_11 = 0 then bd2 (f_X6_finding st (-100001 : Int32)) fun r_29 st_30 => some (r_29, st_30) else bnd (st 0 0) fun v_13 => if v_13 = 10 then bd2 (f_X6_finding st (-100005 : Int32)) fun r_26 st_27 => some (r_26, st_27) else sto 116 st 0 (2 + v_13) x1 fun st_15 => sto 116 st_15 0 (12 + v_13) x2 fun st_16 => sto 116 st_16 0 (22 + v_13) x3 fun st_17 => sto 116 st_17 0 (32 + v_13) 0 fun st_18 => sto 116 st_18 0 (42 + v_13) (-5000 : Int32) fun st_19 => sto 116 st_19 0 (52 + v_13) 5000 fun st_20 => sto 116 st_20 0 (62 + v_13) 0 fun st_21 => sto 116 st_21 0 (72 + v_13) 0 fun st_22 => sto 116 st_22 0 (82 + v_13) 0 fun st_23 => bnd (sU st_23 0 0 ((st_23 0 0) + 1)) fun st_24 => some (v_13, st_24)
set_option maxHeartbeats 4000000 in
set_option maxRecDepth 100000 in
theorem c_X6_grave (l : Launch) (g : GP) (X : va_W) (am : Nat → Nat) (x1 : Int32) (x2 : Int32) (x3 : Int32)  (st : St) {r : Int32} {st' : St} (h : f_X6_grave st x1 x2 x3 = some (r, st')) : MetI l yX6_grave wsX6_grave rmX6_grave g (wMX g X am) [.ref (am 0), .int x1, .int x2, .int x3] st (r) st' := by
  refine metI_of (cc := cX6_grave) (nL := 5) (ty := .int) (by decide) rfl (Nat.le_of_ble_eq_true rfl) rfl ?_
  intro p e s m below meth c Q A C hret H locs hI ls hl
  have C : Cx p s m _ c cX6_grave 5 wsX6_grave RX6 g A := C
  obtain ⟨hx, hb, hml, hown, hts⟩ := id C.1
  have hl : lv_has ls 5 [(0, .ref (am 0)), (1, .int x1), (2, .int x2), (3, .int x3)] := hl
  have lc48 := hts (.constant RX6 48 (-100001)) (by decide +kernel)
  have hinRX6 : ∀ w ∈ u_ws RX6 TX6 16, w ∈ wsX6_grave := by decide +kernel
  have lk9 := hts (.fieldLink RX6 9 "GraveRowsModel" "now" "[I") (by decide +kernel)
  have lc53 := hts (.constant RX6 53 (-100005)) (by decide +kernel)
  rw [f_X6_grave] at h
  refine lv_iload_n hx hb dX6_grave_0 rfl (lv_at hl 1 rfl) ?_
  refine lv_iconst (v := 0) hx hb dX6_grave_1 (by decide) ?_
  refine lv_iconst (v := 3) hx hb dX6_grave_2 (by decide) ?_
  refine callS_S (rest := []) C.1 (c_X6_within l x1 0 3) (va_cwS 3 hts gX6_grave_X6_within rfl rfl rfl hd_X6_within ⟨Nat.le_of_ble_eq_true rfl, Nat.le_of_ble_eq_true rfl⟩) rfl hl.1 rfl (Nat.le_of_ble_eq_true rfl) dX6_grave_3 ?_
  refine gen_b h (fun r_1 h => ?_)
  refine lv_if_eq (tgt := 29) hx hb dX6_grave_6 (by decide) (fun c_2 => ?_) (fun c_2 => ?_)
  · replace h := (if_pos c_2).symm.trans h
    refine lv_aload_n hx hb dX6_grave_29 rfl (lv_at hl 0 rfl) ?_
    refine lv_ldc (v := (-100001)) hx hb hown lc48 dX6_grave_30 ?_
    obtain ⟨r_4, st_5, hr_3, h⟩ := bd2_some h
    refine callV_I (rest := []) C hI (c_X6_finding l g X am (-100001 : Int32) st hr_3) (cwV 1 hts gX6_grave_X6_finding rfl rfl rfl hv_X6_finding ⟨Nat.le_of_ble_eq_true rfl, Nat.le_of_ble_eq_true rfl⟩) (w_recv C hI X.length wM_ob rfl) rfl hl.1 rfl (Nat.le_of_ble_eq_true rfl) dX6_grave_32 (fun H locs hI => ?_)
    obtain ⟨rfl, rfl⟩ := ret2 h
    exact hret H locs _ ls hI dX6_grave_35
  · replace h := (if_neg c_2).symm.trans h
    refine lv_iload_n hx hb dX6_grave_9 rfl (lv_at hl 2 rfl) ?_
    refine lv_iconst (v := 0) hx hb dX6_grave_10 (by decide) ?_
    refine lv_bipush (v := 99) hx hb dX6_grave_11 (by decide) ?_
    refine callS_S (rest := []) C.1 (c_X6_within l x2 0 99) (va_cwS 3 hts gX6_grave_X6_within rfl rfl rfl hd_X6_within ⟨Nat.le_of_ble_eq_true rfl, Nat.le_of_ble_eq_true rfl⟩) rfl hl.1 rfl (Nat.le_of_ble_eq_true rfl) dX6_grave_13 ?_
    refine gen_b h (fun r_6 h => ?_)
    refine lv_if_eq (tgt := 29) hx hb dX6_grave_16 (by decide) (fun c_7 => ?_) (fun c_7 => ?_)
    · replace h := (if_pos c_7).symm.trans h
      refine lv_aload_n hx hb dX6_grave_29 rfl (lv_at hl 0 rfl) ?_
      refine lv_ldc (v := (-100001)) hx hb hown lc48 dX6_grave_30 ?_
      obtain ⟨r_9, st_10, hr_8, h⟩ := bd2_some h
      refine callV_I (rest := []) C hI (c_X6_finding l g X am (-100001 : Int32) st hr_8) (cwV 1 hts gX6_grave_X6_finding rfl rfl rfl hv_X6_finding ⟨Nat.le_of_ble_eq_true rfl, Nat.le_of_ble_eq_true rfl⟩) (w_recv C hI X.length wM_ob rfl) rfl hl.1 rfl (Nat.le_of_ble_eq_true rfl) dX6_grave_32 (fun H locs hI => ?_)
      obtain ⟨rfl, rfl⟩ := ret2 h
      exact hret H locs _ ls hI dX6_grave_35
    · replace h := (if_neg c_7).symm.trans h
      refine lv_iload_n hx hb dX6_grave_19 rfl (lv_at hl 3 rfl) ?_
      refine lv_iconst (v := 0) hx hb dX6_grave_20 (by decide) ?_
      refine lv_bipush (v := 99) hx hb dX6_grave_21 (by decide) ?_
      refine callS_S (rest := []) C.1 (c_X6_within l x3 0 99) (va_cwS 3 hts gX6_grave_X6_within rfl rfl rfl hd_X6_within ⟨Nat.le_of_ble_eq_true rfl, Nat.le_of_ble_eq_true rfl⟩) rfl hl.1 rfl (Nat.le_of_ble_eq_true rfl) dX6_grave_23 ?_
      refine gen_b h (fun r_11 h => ?_)
      refine lv_if_ne (tgt := 36) hx hb dX6_grave_26 (by decide) (fun c_12 => ?_) (fun c_12 => ?_)
      · replace h := (if_neg c_12).symm.trans h
        refine lv_aload_n hx hb dX6_grave_36 rfl (lv_at hl 0 rfl) ?_
        refine w_get (v := .ref (am 1)) C hinRX6 hI X.length wM_ob rfl 0 (by decide) lk9 rfl rfl dX6_grave_37 ?_
        refine lv_iconst (v := 0) hx hb dX6_grave_40 (by decide) ?_
        refine w_ldK C hI (X.length + (0 + 1)) (wM_ar (by decide)) 0 (by decide) (by decide) dX6_grave_41 ?_
        refine gen_i h (fun v_13 h => ?_)
        refine lv_istore (lv' := [(4, .int v_13), (0, .ref (am 0)), (1, .int x1), (2, .int x2), (3, .int x3)]) hx hb dX6_grave_42 hl (by decide) rfl (fun ls hl => ?_)
        refine lv_iload hx hb dX6_grave_44 (lv_at hl 0 rfl) ?_
        refine lv_bipush (v := 10) hx hb dX6_grave_46 (by decide) ?_
        refine lv_icmp_ne (tgt := 58) hx hb dX6_grave_48 (by decide) (fun c_14 => ?_) (fun c_14 => ?_)
        · replace h := (if_neg c_14).symm.trans h
          refine lv_aload_n hx hb dX6_grave_58 rfl (lv_at hl 1 rfl) ?_
          refine w_get (v := .ref (am 1)) C hinRX6 hI X.length wM_ob rfl 0 (by decide) lk9 rfl rfl dX6_grave_59 ?_
          refine lv_iconst (v := 2) hx hb dX6_grave_62 (by decide) ?_
          refine lv_iload hx hb dX6_grave_63 (lv_at hl 0 rfl) ?_
          refine lv_iadd hx hb dX6_grave_65 ?_
          refine lv_iload_n hx hb dX6_grave_66 rfl (lv_at hl 2 rfl) ?_
          refine w_st C hI (X.length + (0 + 1)) (wM_ar (by decide)) (wM_setar (by decide)) h dX6_grave_67 (fun st_15 H locs h hI => ?_)
          refine lv_aload_n hx hb dX6_grave_68 rfl (lv_at hl 1 rfl) ?_
          refine w_get (v := .ref (am 1)) C hinRX6 hI X.length wM_ob rfl 0 (by decide) lk9 rfl rfl dX6_grave_69 ?_
          refine lv_bipush (v := 12) hx hb dX6_grave_72 (by decide) ?_
          refine lv_iload hx hb dX6_grave_74 (lv_at hl 0 rfl) ?_
          refine lv_iadd hx hb dX6_grave_76 ?_
          refine lv_iload_n hx hb dX6_grave_77 rfl (lv_at hl 3 rfl) ?_
          refine w_st C hI (X.length + (0 + 1)) (wM_ar (by decide)) (wM_setar (by decide)) h dX6_grave_78 (fun st_16 H locs h hI => ?_)
          refine lv_aload_n hx hb dX6_grave_79 rfl (lv_at hl 1 rfl) ?_
          refine w_get (v := .ref (am 1)) C hinRX6 hI X.length wM_ob rfl 0 (by decide) lk9 rfl rfl dX6_grave_80 ?_
          refine lv_bipush (v := 22) hx hb dX6_grave_83 (by decide) ?_
          refine lv_iload hx hb dX6_grave_85 (lv_at hl 0 rfl) ?_
          refine lv_iadd hx hb dX6_grave_87 ?_
          refine lv_iload_n hx hb dX6_grave_88 rfl (lv_at hl 4 rfl) ?_
          refine w_st C hI (X.length + (0 + 1)) (wM_ar (by decide)) (wM_setar (by decide)) h dX6_grave_89 (fun st_17 H locs h hI => ?_)
          refine lv_aload_n hx hb dX6_grave_90 rfl (lv_at hl 1 rfl) ?_
          refine w_get (v := .ref (am 1)) C hinRX6 hI X.length wM_ob rfl 0 (by decide) lk9 rfl rfl dX6_grave_91 ?_
          refine lv_bipush (v := 32) hx hb dX6_grave_94 (by decide) ?_
          refine lv_iload hx hb dX6_grave_96 (lv_at hl 0 rfl) ?_
          refine lv_iadd hx hb dX6_grave_98 ?_
          refine lv_iconst (v := 0) hx hb dX6_grave_99 (by decide) ?_
          refine w_st C hI (X.length + (0 + 1)) (wM_ar (by decide)) (wM_setar (by decide)) h dX6_grave_100 (fun st_18 H locs h hI => ?_)
          refine lv_aload_n hx hb dX6_grave_101 rfl (lv_at hl 1 rfl) ?_
          refine w_get (v := .ref (am 1)) C hinRX6 hI X.length wM_ob rfl 0 (by decide) lk9 rfl rfl dX6_grave_102 ?_
          refine lv_bipush (v := 42) hx hb dX6_grave_105 (by decide) ?_
          refine lv_iload hx hb dX6_grave_107 (lv_at hl 0 rfl) ?_
          refine lv_iadd hx hb dX6_grave_109 ?_
          refine lv_sipush (v := (-5000)) hx hb dX6_grave_110 (by decide) ?_
          refine w_st C hI (X.length + (0 + 1)) (wM_ar (by decide)) (wM_setar (by decide)) h dX6_grave_113 (fun st_19 H locs h hI => ?_)
          refine lv_aload_n hx hb dX6_grave_114 rfl (lv_at hl 1 rfl) ?_
          refine w_get (v := .ref (am 1)) C hinRX6 hI X.length wM_ob rfl 0 (by decide) lk9 rfl rfl dX6_grave_115 ?_
          refine lv_bipush (v := 52) hx hb dX6_grave_118 (by decide) ?_
          refine lv_iload hx hb dX6_grave_120 (lv_at hl 0 rfl) ?_
          refine lv_iadd hx hb dX6_grave_122 ?_
          refine lv_sipush (v := 5000) hx hb dX6_grave_123 (by decide) ?_
          refine w_st C hI (X.length + (0 + 1)) (wM_ar (by decide)) (wM_setar (by decide)) h dX6_grave_126 (fun st_20 H locs h hI => ?_)
          refine lv_aload_n hx hb dX6_grave_127 rfl (lv_at hl 1 rfl) ?_
          refine w_get (v := .ref (am 1)) C hinRX6 hI X.length wM_ob rfl 0 (by decide) lk9 rfl rfl dX6_grave_128 ?_
          refine lv_bipush (v := 62) hx hb dX6_grave_131 (by decide) ?_
          refine lv_iload hx hb dX6_grave_133 (lv_at hl 0 rfl) ?_
          refine lv_iadd hx hb dX6_grave_135 ?_
          refine lv_iconst (v := 0) hx hb dX6_grave_136 (by decide) ?_
          refine w_st C hI (X.length + (0 + 1)) (wM_ar (by decide)) (wM_setar (by decide)) h dX6_grave_137 (fun st_21 H locs h hI => ?_)
          refine lv_aload_n hx hb dX6_grave_138 rfl (lv_at hl 1 rfl) ?_
          refine w_get (v := .ref (am 1)) C hinRX6 hI X.length wM_ob rfl 0 (by decide) lk9 rfl rfl dX6_grave_139 ?_
          refine lv_bipush (v := 72) hx hb dX6_grave_142 (by decide) ?_
          refine lv_iload hx hb dX6_grave_144 (lv_at hl 0 rfl) ?_
          refine lv_iadd hx hb dX6_grave_146 ?_
          refine lv_iconst (v := 0) hx hb dX6_grave_147 (by decide) ?_
          refine w_st C hI (X.length + (0 + 1)) (wM_ar (by decide)) (wM_setar (by decide)) h dX6_grave_148 (fun st_22 H locs h hI => ?_)
          refine lv_aload_n hx hb dX6_grave_149 rfl (lv_at hl 1 rfl) ?_
          refine w_get (v := .ref (am 1)) C hinRX6 hI X.length wM_ob rfl 0 (by decide) lk9 rfl rfl dX6_grave_150 ?_
          refine lv_bipush (v := 82) hx hb dX6_grave_153 (by decide) ?_
          refine lv_iload hx hb dX6_grave_155 (lv_at hl 0 rfl) ?_
          refine lv_iadd hx hb dX6_grave_157 ?_
          refine lv_iconst (v := 0) hx hb dX6_grave_158 (by decide) ?_
          refine w_st C hI (X.length + (0 + 1)) (wM_ar (by decide)) (wM_setar (by decide)) h dX6_grave_159 (fun st_23 H locs h hI => ?_)
          refine lv_aload_n hx hb dX6_grave_160 rfl (lv_at hl 1 rfl) ?_
          refine w_get (v := .ref (am 1)) C hinRX6 hI X.length wM_ob rfl 0 (by decide) lk9 rfl rfl dX6_grave_161 ?_
          refine lv_iconst (v := 0) hx hb dX6_grave_164 (by decide) ?_
          refine lv_dup2_11 hx hb dX6_grave_165 rfl rfl ?_
          refine w_ldK C hI (X.length + (0 + 1)) (wM_ar (by decide)) 0 (by decide) (by decide) dX6_grave_166 ?_
          refine lv_iconst (v := 1) hx hb dX6_grave_167 (by decide) ?_
          refine lv_iadd hx hb dX6_grave_168 ?_
          refine w_stK C hI (X.length + (0 + 1)) (wM_ar (by decide)) (wM_setar (by decide)) 0 h (by decide) (by decide) dX6_grave_169 (fun st_24 H locs h hI => ?_)
          refine lv_iload hx hb dX6_grave_170 (lv_at hl 0 rfl) ?_
          obtain ⟨rfl, rfl⟩ := ret2 h
          exact hret H locs _ ls hI dX6_grave_172
        · replace h := (if_pos c_14).symm.trans h
          refine lv_aload_n hx hb dX6_grave_51 rfl (lv_at hl 1 rfl) ?_
          refine lv_ldc (v := (-100005)) hx hb hown lc53 dX6_grave_52 ?_
          obtain ⟨r_26, st_27, hr_25, h⟩ := bd2_some h
          refine callV_I (rest := []) C hI (c_X6_finding l g X am (-100005 : Int32) st hr_25) (cwV 1 hts gX6_grave_X6_finding rfl rfl rfl hv_X6_finding ⟨Nat.le_of_ble_eq_true rfl, Nat.le_of_ble_eq_true rfl⟩) (w_recv C hI X.length wM_ob rfl) rfl hl.1 rfl (Nat.le_of_ble_eq_true rfl) dX6_grave_54 (fun H locs hI => ?_)
          obtain ⟨rfl, rfl⟩ := ret2 h
          exact hret H locs _ ls hI dX6_grave_57
      · replace h := (if_pos c_12).symm.trans h
        refine lv_aload_n hx hb dX6_grave_29 rfl (lv_at hl 0 rfl) ?_
        refine lv_ldc (v := (-100001)) hx hb hown lc48 dX6_grave_30 ?_
        obtain ⟨r_29, st_30, hr_28, h⟩ := bd2_some h
        refine callV_I (rest := []) C hI (c_X6_finding l g X am (-100001 : Int32) st hr_28) (cwV 1 hts gX6_grave_X6_finding rfl rfl rfl hv_X6_finding ⟨Nat.le_of_ble_eq_true rfl, Nat.le_of_ble_eq_true rfl⟩) (w_recv C hI X.length wM_ob rfl) rfl hl.1 rfl (Nat.le_of_ble_eq_true rfl) dX6_grave_32 (fun H locs hI => ?_)
        obtain ⟨rfl, rfl⟩ := ret2 h
        exact hret H locs _ ls hI dX6_grave_35
theorem hv_X6_grave : yX6_grave.cls = RX6 ∧ yX6_grave.cls ≠ "java/lang/invoke/MethodHandle" ∧ yX6_grave.cls ≠ "java/lang/invoke/VarHandle" ∧ (parseMethodDescriptor yX6_grave.desc).map (fun d => d.parameters.length) = some 3 := by decide +kernel
/-! X6_as -/
def rmX6_as : Room := { frames := 2, cells := 0, slots := 0, locals := 43 }
def f_X6_as (st : St) (x1 : Int32) (x2 : Int32) : Option (Int32 × St) := bnd (f_X6_isGrave st x1) fun r_1 => if b2i r_1 = 0 then bd2 (f_X6_finding st (-100001 : Int32)) fun r_4 st_5 => some (r_4, st_5) else bnd (f_X6_within x2 0 3) fun r_6 => if b2i r_6 = 0 then bd2 (f_X6_finding st (-100001 : Int32)) fun r_21 st_22 => some (r_21, st_22) else ck 116 (2 + x1) fun j_8 => bnd (st 0 j_8) fun v_9 => if x2 = 0 then some (x1, st) else if v_9 = x2 then some (x1, st) else if x2 = 1 then if v_9 = 3 then some (x1, st) else bd2 (f_X6_finding st (-100004 : Int32)) fun r_18 st_19 => some (r_18, st_19) else bd2 (f_X6_finding st (-100004 : Int32)) fun r_14 st_15 => some (r_14, st_15)
set_option maxHeartbeats 4000000 in
set_option maxRecDepth 100000 in
theorem c_X6_as (l : Launch) (g : GP) (X : va_W) (am : Nat → Nat) (x1 : Int32) (x2 : Int32)  (st : St) {r : Int32} {st' : St} (h : f_X6_as st x1 x2 = some (r, st')) : MetI l yX6_as wsX6_as rmX6_as g (wMX g X am) [.ref (am 0), .int x1, .int x2] st (r) st' := by
  refine metI_of (cc := cX6_as) (nL := 4) (ty := .int) (by decide) rfl (Nat.le_of_ble_eq_true rfl) rfl ?_
  intro p e s m below meth c Q A C hret H locs hI ls hl
  have C : Cx p s m _ c cX6_as 4 wsX6_as RX6 g A := C
  obtain ⟨hx, hb, hml, hown, hts⟩ := id C.1
  have hl : lv_has ls 4 [(0, .ref (am 0)), (1, .int x1), (2, .int x2)] := hl
  have lc48 := hts (.constant RX6 48 (-100001)) (by decide +kernel)
  have hinRX6 : ∀ w ∈ u_ws RX6 TX6 16, w ∈ wsX6_as := by decide +kernel
  have lk9 := hts (.fieldLink RX6 9 "GraveRowsModel" "now" "[I") (by decide +kernel)
  have lc58 := hts (.constant RX6 58 (-100004)) (by decide +kernel)
  rw [f_X6_as] at h
  refine lv_aload_n hx hb dX6_as_0 rfl (lv_at hl 0 rfl) ?_
  refine lv_iload_n hx hb dX6_as_1 rfl (lv_at hl 1 rfl) ?_
  refine callV_I (rest := []) C hI (c_X6_isGrave l g X am x1 st) (cwV 1 hts gX6_as_X6_isGrave rfl rfl rfl hv_X6_isGrave ⟨Nat.le_of_ble_eq_true rfl, Nat.le_of_ble_eq_true rfl⟩) (w_recv C hI X.length wM_ob rfl) rfl hl.1 rfl (Nat.le_of_ble_eq_true rfl) dX6_as_2 (fun H locs hI => ?_)
  refine gen_b h (fun r_1 h => ?_)
  refine lv_if_eq (tgt := 17) hx hb dX6_as_5 (by decide) (fun c_2 => ?_) (fun c_2 => ?_)
  · replace h := (if_pos c_2).symm.trans h
    refine lv_aload_n hx hb dX6_as_17 rfl (lv_at hl 0 rfl) ?_
    refine lv_ldc (v := (-100001)) hx hb hown lc48 dX6_as_18 ?_
    obtain ⟨r_4, st_5, hr_3, h⟩ := bd2_some h
    refine callV_I (rest := []) C hI (c_X6_finding l g X am (-100001 : Int32) st hr_3) (cwV 1 hts gX6_as_X6_finding rfl rfl rfl hv_X6_finding ⟨Nat.le_of_ble_eq_true rfl, Nat.le_of_ble_eq_true rfl⟩) (w_recv C hI X.length wM_ob rfl) rfl hl.1 rfl (Nat.le_of_ble_eq_true rfl) dX6_as_20 (fun H locs hI => ?_)
    obtain ⟨rfl, rfl⟩ := ret2 h
    exact hret H locs _ ls hI dX6_as_23
  · replace h := (if_neg c_2).symm.trans h
    refine lv_iload_n hx hb dX6_as_8 rfl (lv_at hl 2 rfl) ?_
    refine lv_iconst (v := 0) hx hb dX6_as_9 (by decide) ?_
    refine lv_iconst (v := 3) hx hb dX6_as_10 (by decide) ?_
    refine callS_S (rest := []) C.1 (c_X6_within l x2 0 3) (va_cwS 3 hts gX6_as_X6_within rfl rfl rfl hd_X6_within ⟨Nat.le_of_ble_eq_true rfl, Nat.le_of_ble_eq_true rfl⟩) rfl hl.1 rfl (Nat.le_of_ble_eq_true rfl) dX6_as_11 ?_
    refine gen_b h (fun r_6 h => ?_)
    refine lv_if_ne (tgt := 24) hx hb dX6_as_14 (by decide) (fun c_7 => ?_) (fun c_7 => ?_)
    · replace h := (if_neg c_7).symm.trans h
      refine lv_aload_n hx hb dX6_as_24 rfl (lv_at hl 0 rfl) ?_
      refine w_get (v := .ref (am 1)) C hinRX6 hI X.length wM_ob rfl 0 (by decide) lk9 rfl rfl dX6_as_25 ?_
      refine lv_iconst (v := 2) hx hb dX6_as_28 (by decide) ?_
      refine lv_iload_n hx hb dX6_as_29 rfl (lv_at hl 1 rfl) ?_
      refine lv_iadd hx hb dX6_as_30 ?_
      refine w_ld C hI (X.length + (0 + 1)) (wM_ar (by decide)) h dX6_as_31 (fun j_8 hj_8 h => ?_)
      refine gen_i h (fun v_9 h => ?_)
      refine lv_istore_n (lv' := [(3, .int v_9), (0, .ref (am 0)), (1, .int x1), (2, .int x2)]) hx hb dX6_as_32 rfl hl (by decide) rfl (fun ls hl => ?_)
      refine lv_iload_n hx hb dX6_as_33 rfl (lv_at hl 3 rfl) ?_
      refine lv_if_eq (tgt := 52) hx hb dX6_as_34 (by decide) (fun c_10 => ?_) (fun c_10 => ?_)
      · replace h := (if_pos c_10).symm.trans h
        refine lv_iload_n hx hb dX6_as_52 rfl (lv_at hl 2 rfl) ?_
        refine lv_goto (tgt := 62) hx hb dX6_as_53 (by decide) ?_
        obtain ⟨rfl, rfl⟩ := ret2 h
        exact hret H locs _ ls hI dX6_as_62
      · replace h := (if_neg c_10).symm.trans h
        refine lv_iload_n hx hb dX6_as_37 rfl (lv_at hl 0 rfl) ?_
        refine lv_iload_n hx hb dX6_as_38 rfl (lv_at hl 3 rfl) ?_
        refine lv_icmp_eq (tgt := 52) hx hb dX6_as_39 (by decide) (fun c_11 => ?_) (fun c_11 => ?_)
        · replace h := (if_pos c_11).symm.trans h
          refine lv_iload_n hx hb dX6_as_52 rfl (lv_at hl 2 rfl) ?_
          refine lv_goto (tgt := 62) hx hb dX6_as_53 (by decide) ?_
          obtain ⟨rfl, rfl⟩ := ret2 h
          exact hret H locs _ ls hI dX6_as_62
        · replace h := (if_neg c_11).symm.trans h
          refine lv_iload_n hx hb dX6_as_42 rfl (lv_at hl 3 rfl) ?_
          refine lv_iconst (v := 1) hx hb dX6_as_43 (by decide) ?_
          refine lv_icmp_ne (tgt := 56) hx hb dX6_as_44 (by decide) (fun c_12 => ?_) (fun c_12 => ?_)
          · replace h := (if_neg c_12).symm.trans h
            refine lv_aload_n hx hb dX6_as_56 rfl (lv_at hl 1 rfl) ?_
            refine lv_ldc (v := (-100004)) hx hb hown lc58 dX6_as_57 ?_
            obtain ⟨r_14, st_15, hr_13, h⟩ := bd2_some h
            refine callV_I (rest := []) C hI (c_X6_finding l g X am (-100004 : Int32) st hr_13) (cwV 1 hts gX6_as_X6_finding rfl rfl rfl hv_X6_finding ⟨Nat.le_of_ble_eq_true rfl, Nat.le_of_ble_eq_true rfl⟩) (w_recv C hI X.length wM_ob rfl) rfl hl.1 rfl (Nat.le_of_ble_eq_true rfl) dX6_as_59 (fun H locs hI => ?_)
            obtain ⟨rfl, rfl⟩ := ret2 h
            exact hret H locs _ ls hI dX6_as_62
          · replace h := (if_pos c_12).symm.trans h
            refine lv_iload_n hx hb dX6_as_47 rfl (lv_at hl 0 rfl) ?_
            refine lv_iconst (v := 3) hx hb dX6_as_48 (by decide) ?_
            refine lv_icmp_ne (tgt := 56) hx hb dX6_as_49 (by decide) (fun c_16 => ?_) (fun c_16 => ?_)
            · replace h := (if_neg c_16).symm.trans h
              refine lv_aload_n hx hb dX6_as_56 rfl (lv_at hl 1 rfl) ?_
              refine lv_ldc (v := (-100004)) hx hb hown lc58 dX6_as_57 ?_
              obtain ⟨r_18, st_19, hr_17, h⟩ := bd2_some h
              refine callV_I (rest := []) C hI (c_X6_finding l g X am (-100004 : Int32) st hr_17) (cwV 1 hts gX6_as_X6_finding rfl rfl rfl hv_X6_finding ⟨Nat.le_of_ble_eq_true rfl, Nat.le_of_ble_eq_true rfl⟩) (w_recv C hI X.length wM_ob rfl) rfl hl.1 rfl (Nat.le_of_ble_eq_true rfl) dX6_as_59 (fun H locs hI => ?_)
              obtain ⟨rfl, rfl⟩ := ret2 h
              exact hret H locs _ ls hI dX6_as_62
            · replace h := (if_pos c_16).symm.trans h
              refine lv_iload_n hx hb dX6_as_52 rfl (lv_at hl 2 rfl) ?_
              refine lv_goto (tgt := 62) hx hb dX6_as_53 (by decide) ?_
              obtain ⟨rfl, rfl⟩ := ret2 h
              exact hret H locs _ ls hI dX6_as_62
    · replace h := (if_pos c_7).symm.trans h
      refine lv_aload_n hx hb dX6_as_17 rfl (lv_at hl 0 rfl) ?_
      refine lv_ldc (v := (-100001)) hx hb hown lc48 dX6_as_18 ?_
      obtain ⟨r_21, st_22, hr_20, h⟩ := bd2_some h
      refine callV_I (rest := []) C hI (c_X6_finding l g X am (-100001 : Int32) st hr_20) (cwV 1 hts gX6_as_X6_finding rfl rfl rfl hv_X6_finding ⟨Nat.le_of_ble_eq_true rfl, Nat.le_of_ble_eq_true rfl⟩) (w_recv C hI X.length wM_ob rfl) rfl hl.1 rfl (Nat.le_of_ble_eq_true rfl) dX6_as_20 (fun H locs hI => ?_)
      obtain ⟨rfl, rfl⟩ := ret2 h
      exact hret H locs _ ls hI dX6_as_23
theorem hv_X6_as : yX6_as.cls = RX6 ∧ yX6_as.cls ≠ "java/lang/invoke/MethodHandle" ∧ yX6_as.cls ≠ "java/lang/invoke/VarHandle" ∧ (parseMethodDescriptor yX6_as.desc).map (fun d => d.parameters.length) = some 2 := by decide +kernel
/-! X6_goods -/
def rmX6_goods : Room := { frames := 2, cells := 0, slots := 0, locals := 43 }
def f_X6_goods (st : St) (x1 : Int32) (x2 : Int32) : Option (Int32 × St) := bnd (f_X6_isGrave st x1) fun r_1 => if b2i r_1 = 0 then bd2 (f_X6_finding st (-100001 : Int32)) fun r_4 st_5 => some (r_4, st_5) else bnd (f_X6_within x2 0 4095) fun r_6 => if b2i r_6 = 0 then bd2 (f_X6_finding st (-100001 : Int32)) fun r_12 st_13 => some (r_12, st_13) else ck 116 (32 + x1) fun j_8 => bnd (st 0 j_8) fun v_9 => sto 116 st 0 (32 + x1) x2 fun st_10 => some (v_9, st_10)
set_option maxHeartbeats 4000000 in
set_option maxRecDepth 100000 in
theorem c_X6_goods (l : Launch) (g : GP) (X : va_W) (am : Nat → Nat) (x1 : Int32) (x2 : Int32)  (st : St) {r : Int32} {st' : St} (h : f_X6_goods st x1 x2 = some (r, st')) : MetI l yX6_goods wsX6_goods rmX6_goods g (wMX g X am) [.ref (am 0), .int x1, .int x2] st (r) st' := by
  refine metI_of (cc := cX6_goods) (nL := 4) (ty := .int) (by decide) rfl (Nat.le_of_ble_eq_true rfl) rfl ?_
  intro p e s m below meth c Q A C hret H locs hI ls hl
  have C : Cx p s m _ c cX6_goods 4 wsX6_goods RX6 g A := C
  obtain ⟨hx, hb, hml, hown, hts⟩ := id C.1
  have hl : lv_has ls 4 [(0, .ref (am 0)), (1, .int x1), (2, .int x2)] := hl
  have lc48 := hts (.constant RX6 48 (-100001)) (by decide +kernel)
  have hinRX6 : ∀ w ∈ u_ws RX6 TX6 16, w ∈ wsX6_goods := by decide +kernel
  have lk9 := hts (.fieldLink RX6 9 "GraveRowsModel" "now" "[I") (by decide +kernel)
  rw [f_X6_goods] at h
  refine lv_aload_n hx hb dX6_goods_0 rfl (lv_at hl 0 rfl) ?_
  refine lv_iload_n hx hb dX6_goods_1 rfl (lv_at hl 1 rfl) ?_
  refine callV_I (rest := []) C hI (c_X6_isGrave l g X am x1 st) (cwV 1 hts gX6_goods_X6_isGrave rfl rfl rfl hv_X6_isGrave ⟨Nat.le_of_ble_eq_true rfl, Nat.le_of_ble_eq_true rfl⟩) (w_recv C hI X.length wM_ob rfl) rfl hl.1 rfl (Nat.le_of_ble_eq_true rfl) dX6_goods_2 (fun H locs hI => ?_)
  refine gen_b h (fun r_1 h => ?_)
  refine lv_if_eq (tgt := 19) hx hb dX6_goods_5 (by decide) (fun c_2 => ?_) (fun c_2 => ?_)
  · replace h := (if_pos c_2).symm.trans h
    refine lv_aload_n hx hb dX6_goods_19 rfl (lv_at hl 0 rfl) ?_
    refine lv_ldc (v := (-100001)) hx hb hown lc48 dX6_goods_20 ?_
    obtain ⟨r_4, st_5, hr_3, h⟩ := bd2_some h
    refine callV_I (rest := []) C hI (c_X6_finding l g X am (-100001 : Int32) st hr_3) (cwV 1 hts gX6_goods_X6_finding rfl rfl rfl hv_X6_finding ⟨Nat.le_of_ble_eq_true rfl, Nat.le_of_ble_eq_true rfl⟩) (w_recv C hI X.length wM_ob rfl) rfl hl.1 rfl (Nat.le_of_ble_eq_true rfl) dX6_goods_22 (fun H locs hI => ?_)
    obtain ⟨rfl, rfl⟩ := ret2 h
    exact hret H locs _ ls hI dX6_goods_25
  · replace h := (if_neg c_2).symm.trans h
    refine lv_iload_n hx hb dX6_goods_8 rfl (lv_at hl 2 rfl) ?_
    refine lv_iconst (v := 0) hx hb dX6_goods_9 (by decide) ?_
    refine lv_sipush (v := 4095) hx hb dX6_goods_10 (by decide) ?_
    refine callS_S (rest := []) C.1 (c_X6_within l x2 0 4095) (va_cwS 3 hts gX6_goods_X6_within rfl rfl rfl hd_X6_within ⟨Nat.le_of_ble_eq_true rfl, Nat.le_of_ble_eq_true rfl⟩) rfl hl.1 rfl (Nat.le_of_ble_eq_true rfl) dX6_goods_13 ?_
    refine gen_b h (fun r_6 h => ?_)
    refine lv_if_ne (tgt := 26) hx hb dX6_goods_16 (by decide) (fun c_7 => ?_) (fun c_7 => ?_)
    · replace h := (if_neg c_7).symm.trans h
      refine lv_aload_n hx hb dX6_goods_26 rfl (lv_at hl 0 rfl) ?_
      refine w_get (v := .ref (am 1)) C hinRX6 hI X.length wM_ob rfl 0 (by decide) lk9 rfl rfl dX6_goods_27 ?_
      refine lv_bipush (v := 32) hx hb dX6_goods_30 (by decide) ?_
      refine lv_iload_n hx hb dX6_goods_32 rfl (lv_at hl 1 rfl) ?_
      refine lv_iadd hx hb dX6_goods_33 ?_
      refine w_ld C hI (X.length + (0 + 1)) (wM_ar (by decide)) h dX6_goods_34 (fun j_8 hj_8 h => ?_)
      refine gen_i h (fun v_9 h => ?_)
      refine lv_istore_n (lv' := [(3, .int v_9), (0, .ref (am 0)), (1, .int x1), (2, .int x2)]) hx hb dX6_goods_35 rfl hl (by decide) rfl (fun ls hl => ?_)
      refine lv_aload_n hx hb dX6_goods_36 rfl (lv_at hl 1 rfl) ?_
      refine w_get (v := .ref (am 1)) C hinRX6 hI X.length wM_ob rfl 0 (by decide) lk9 rfl rfl dX6_goods_37 ?_
      refine lv_bipush (v := 32) hx hb dX6_goods_40 (by decide) ?_
      refine lv_iload_n hx hb dX6_goods_42 rfl (lv_at hl 2 rfl) ?_
      refine lv_iadd hx hb dX6_goods_43 ?_
      refine lv_iload_n hx hb dX6_goods_44 rfl (lv_at hl 3 rfl) ?_
      refine w_st C hI (X.length + (0 + 1)) (wM_ar (by decide)) (wM_setar (by decide)) h dX6_goods_45 (fun st_10 H locs h hI => ?_)
      refine lv_iload_n hx hb dX6_goods_46 rfl (lv_at hl 0 rfl) ?_
      obtain ⟨rfl, rfl⟩ := ret2 h
      exact hret H locs _ ls hI dX6_goods_47
    · replace h := (if_pos c_7).symm.trans h
      refine lv_aload_n hx hb dX6_goods_19 rfl (lv_at hl 0 rfl) ?_
      refine lv_ldc (v := (-100001)) hx hb hown lc48 dX6_goods_20 ?_
      obtain ⟨r_12, st_13, hr_11, h⟩ := bd2_some h
      refine callV_I (rest := []) C hI (c_X6_finding l g X am (-100001 : Int32) st hr_11) (cwV 1 hts gX6_goods_X6_finding rfl rfl rfl hv_X6_finding ⟨Nat.le_of_ble_eq_true rfl, Nat.le_of_ble_eq_true rfl⟩) (w_recv C hI X.length wM_ob rfl) rfl hl.1 rfl (Nat.le_of_ble_eq_true rfl) dX6_goods_22 (fun H locs hI => ?_)
      obtain ⟨rfl, rfl⟩ := ret2 h
      exact hret H locs _ ls hI dX6_goods_25
theorem hv_X6_goods : yX6_goods.cls = RX6 ∧ yX6_goods.cls ≠ "java/lang/invoke/MethodHandle" ∧ yX6_goods.cls ≠ "java/lang/invoke/VarHandle" ∧ (parseMethodDescriptor yX6_goods.desc).map (fun d => d.parameters.length) = some 2 := by decide +kernel
/-! X6_doesCut -/
def rmX6_doesCut : Room := { frames := 0, cells := 0, slots := 0, locals := 0 }
def f_X6_doesCut (st : St) (x1 : Int32) (x2 : Int32) : Option (Bool) := ck 116 (62 + x1) fun j_1 => if ((st 0 j_1) >>> (x2 &&& 31)) &&& (1 : Int32) = 1 then some true else some false
set_option maxHeartbeats 4000000 in
set_option maxRecDepth 100000 in
theorem c_X6_doesCut (l : Launch) (g : GP) (X : va_W) (am : Nat → Nat) (x1 : Int32) (x2 : Int32)  (st : St) {r : Bool}  (h : f_X6_doesCut st x1 x2 = some r) : MetI l yX6_doesCut wsX6_doesCut rmX6_doesCut g (wMX g X am) [.ref (am 0), .int x1, .int x2] st (b2i r) st := by
  refine metI_of (cc := cX6_doesCut) (nL := 3) (ty := .boolean) (by decide) rfl (Nat.le_of_ble_eq_true rfl) (nar_b _) ?_
  intro p e s m below meth c Q A C hret H locs hI ls hl
  have C : Cx p s m _ c cX6_doesCut 3 wsX6_doesCut RX6 g A := C
  obtain ⟨hx, hb, hml, hown, hts⟩ := id C.1
  have hl : lv_has ls 3 [(0, .ref (am 0)), (1, .int x1), (2, .int x2)] := hl
  have hinRX6 : ∀ w ∈ u_ws RX6 TX6 16, w ∈ wsX6_doesCut := by decide +kernel
  have lk9 := hts (.fieldLink RX6 9 "GraveRowsModel" "now" "[I") (by decide +kernel)
  rw [f_X6_doesCut] at h
  refine lv_aload_n hx hb dX6_doesCut_0 rfl (lv_at hl 0 rfl) ?_
  refine w_get (v := .ref (am 1)) C hinRX6 hI X.length wM_ob rfl 0 (by decide) lk9 rfl rfl dX6_doesCut_1 ?_
  refine lv_bipush (v := 62) hx hb dX6_doesCut_4 (by decide) ?_
  refine lv_iload_n hx hb dX6_doesCut_6 rfl (lv_at hl 1 rfl) ?_
  refine lv_iadd hx hb dX6_doesCut_7 ?_
  refine w_ld C hI (X.length + (0 + 1)) (wM_ar (by decide)) h dX6_doesCut_8 (fun j_1 hj_1 h => ?_)
  refine lv_iload_n hx hb dX6_doesCut_9 rfl (lv_at hl 2 rfl) ?_
  refine lv_ishr hx hb dX6_doesCut_10 ?_
  refine lv_iconst (v := 1) hx hb dX6_doesCut_11 (by decide) ?_
  refine lv_iand hx hb dX6_doesCut_12 ?_
  refine lv_iconst (v := 1) hx hb dX6_doesCut_13 (by decide) ?_
  refine lv_icmp_ne (tgt := 21) hx hb dX6_doesCut_14 (by decide) (fun c_2 => ?_) (fun c_2 => ?_)
  · replace h := (if_neg c_2).symm.trans h
    refine lv_iconst (v := 0) hx hb dX6_doesCut_21 (by decide) ?_
    obtain rfl := ret1 h
    exact hret H locs _ ls hI dX6_doesCut_22
  · replace h := (if_pos c_2).symm.trans h
    refine lv_iconst (v := 1) hx hb dX6_doesCut_17 (by decide) ?_
    refine lv_goto (tgt := 22) hx hb dX6_doesCut_18 (by decide) ?_
    obtain rfl := ret1 h
    exact hret H locs _ ls hI dX6_doesCut_22
theorem hv_X6_doesCut : yX6_doesCut.cls = RX6 ∧ yX6_doesCut.cls ≠ "java/lang/invoke/MethodHandle" ∧ yX6_doesCut.cls ≠ "java/lang/invoke/VarHandle" ∧ (parseMethodDescriptor yX6_doesCut.desc).map (fun d => d.parameters.length) = some 2 := by decide +kernel
/-! X6_cutBy -/
def rmX6_cutBy : Room := { frames := 1, cells := 0, slots := 0, locals := 22 }
def f_X6_cutBy_L4 (N : Nat) (x1 : Int32) (st : St) (k : Int32 → Int32 → Option (Int32)) : Nat → Int32 → Int32 → Option (Int32)
  | 0, _, _ => none
  | n + 1, x2, x3 => if st 0 0 ≤ x3 then k x2 x3 else bd1 (f_X6_doesCut st x3 x1) fun r_3 => if b2i r_3 = 0 then bnd (x2 + 0) fun v_5 => f_X6_cutBy_L4 N x1 st k n v_5 (x3 + 1) else bnd (x2 + 1) fun v_6 => f_X6_cutBy_L4 N x1 st k n v_6 (x3 + 1)
def f_X6_cutBy (N : Nat) (st : St) (x1 : Int32) : Option (Int32) := f_X6_cutBy_L4 N x1 st (fun a_7 a_8 => some a_7) N 0 0
set_option maxHeartbeats 4000000 in
set_option maxRecDepth 100000 in
theorem wl_X6_cutBy_L4 {p : Program} {l : Launch} {e : Env} {s : State} {m : MethodId} {args : Array Value} {below : List Frame} {meth : Method} {c : Code} {Q : State → Prop} {A : Nat → Prop} {g : GP} {X : va_W} {am : Nat → Nat} {r : Int32}  (C : Cx p s m args c cX6_cutBy 4 wsX6_cutBy RX6 g A) (st : St) (hret : RetI p l e rmX6_cutBy s m args below meth c Q cX6_cutBy g A (wMX g X am st) (r)) (N : Nat) (x1 : Int32)  (k : Int32 → Int32 → Option (Int32)) (hk : ∀ (x2 : Int32) (x3 : Int32) (H : Heap) (locs : List Loc) (ls : Array Slot), k x2 x3 = some r → IW g A s.heap (wMX g X am st) H locs → lv_has ls 4 [(0, .ref (am 0)), (1, .int x1), (2, .int x2), (3, .int x3)] → W p l e rmX6_cutBy s m args below meth c H locs 0 0 Q (F0 m 37 ls [])) : ∀ (n : Nat) (x2 : Int32) (x3 : Int32) (H : Heap) (locs : List Loc) (ls : Array Slot), f_X6_cutBy_L4 N x1 st k n x2 x3 = some r → IW g A s.heap (wMX g X am st) H locs → lv_has ls 4 [(0, .ref (am 0)), (1, .int x1), (2, .int x2), (3, .int x3)] → W p l e rmX6_cutBy s m args below meth c H locs 0 0 Q (F0 m 4 ls []) := by
  obtain ⟨hx, hb, hml, hown, hts⟩ := id C.1
  have hinRX6 : ∀ w ∈ u_ws RX6 TX6 16, w ∈ wsX6_cutBy := by decide +kernel
  have lk9 := hts (.fieldLink RX6 9 "GraveRowsModel" "now" "[I") (by decide +kernel)
  intro n
  induction n with
  | zero =>
    intro x2 x3 H locs ls h hI hl
    rw [f_X6_cutBy_L4] at h
    cases h
  | succ n ih =>
    intro x2 x3 H locs ls h hI hl
    rw [f_X6_cutBy_L4] at h
    refine lv_iload_n hx hb dX6_cutBy_4 rfl (lv_at hl 3 rfl) ?_
    refine lv_aload_n hx hb dX6_cutBy_5 rfl (lv_at hl 0 rfl) ?_
    refine w_get (v := .ref (am 1)) C hinRX6 hI X.length wM_ob rfl 0 (by decide) lk9 rfl rfl dX6_cutBy_6 ?_
    refine lv_iconst (v := 0) hx hb dX6_cutBy_9 (by decide) ?_
    refine w_ldK C hI (X.length + (0 + 1)) (wM_ar (by decide)) 0 (by decide) (by decide) dX6_cutBy_10 ?_
    refine lv_icmp_ge (tgt := 37) hx hb dX6_cutBy_11 (by decide) (fun c_1 => ?_) (fun c_1 => ?_)
    · replace h := (if_pos c_1).symm.trans h
      exact hk _ _ _ _ _ h hI (lv_sub hl [0, 1, 2, 3] rfl)
    · replace h := (if_neg c_1).symm.trans h
      refine lv_iload_n hx hb dX6_cutBy_14 rfl (lv_at hl 2 rfl) ?_
      refine lv_aload_n hx hb dX6_cutBy_15 rfl (lv_at hl 0 rfl) ?_
      refine lv_iload_n hx hb dX6_cutBy_16 rfl (lv_at hl 3 rfl) ?_
      refine lv_iload_n hx hb dX6_cutBy_17 rfl (lv_at hl 1 rfl) ?_
      obtain ⟨r_3, hr_2, h⟩ := bd1_some h
      refine callV_I (rest := [.int x2]) C hI (c_X6_doesCut l g X am x3 x1 st hr_2) (cwV 2 hts gX6_cutBy_X6_doesCut rfl rfl rfl hv_X6_doesCut ⟨Nat.le_of_ble_eq_true rfl, Nat.le_of_ble_eq_true rfl⟩) (w_recv C hI X.length wM_ob rfl) rfl hl.1 rfl (Nat.le_of_ble_eq_true rfl) dX6_cutBy_18 (fun H locs hI => ?_)
      refine lv_if_eq (tgt := 28) hx hb dX6_cutBy_21 (by decide) (fun c_4 => ?_) (fun c_4 => ?_)
      · replace h := (if_pos c_4).symm.trans h
        refine lv_iconst (v := 0) hx hb dX6_cutBy_28 (by decide) ?_
        refine lv_iadd hx hb dX6_cutBy_29 ?_
        refine gen_i h (fun v_5 h => ?_)
        refine lv_istore_n (lv' := [(2, .int v_5), (0, .ref (am 0)), (1, .int x1), (3, .int x3)]) hx hb dX6_cutBy_30 rfl hl (by decide) rfl (fun ls hl => ?_)
        refine lv_iinc (v := x3 + 1) (lv' := [(3, .int (x3 + 1)), (2, .int v_5), (0, .ref (am 0)), (1, .int x1)]) hx hb dX6_cutBy_31 hl (k := 3) rfl rfl (by decide) rfl (fun ls hl => ?_)
        refine lv_goto (tgt := 4) hx hb dX6_cutBy_34 (by decide) ?_
        exact ih _ _ _ _ _ h hI (lv_sub hl [2, 3, 1, 0] rfl)
      · replace h := (if_neg c_4).symm.trans h
        refine lv_iconst (v := 1) hx hb dX6_cutBy_24 (by decide) ?_
        refine lv_goto (tgt := 29) hx hb dX6_cutBy_25 (by decide) ?_
        refine lv_iadd hx hb dX6_cutBy_29 ?_
        refine gen_i h (fun v_6 h => ?_)
        refine lv_istore_n (lv' := [(2, .int v_6), (0, .ref (am 0)), (1, .int x1), (3, .int x3)]) hx hb dX6_cutBy_30 rfl hl (by decide) rfl (fun ls hl => ?_)
        refine lv_iinc (v := x3 + 1) (lv' := [(3, .int (x3 + 1)), (2, .int v_6), (0, .ref (am 0)), (1, .int x1)]) hx hb dX6_cutBy_31 hl (k := 3) rfl rfl (by decide) rfl (fun ls hl => ?_)
        refine lv_goto (tgt := 4) hx hb dX6_cutBy_34 (by decide) ?_
        exact ih _ _ _ _ _ h hI (lv_sub hl [2, 3, 1, 0] rfl)
set_option maxHeartbeats 4000000 in
set_option maxRecDepth 100000 in
theorem c_X6_cutBy (l : Launch) (g : GP) (X : va_W) (am : Nat → Nat) (N : Nat) (x1 : Int32)  (st : St) {r : Int32}  (h : f_X6_cutBy N st x1 = some r) : MetI l yX6_cutBy wsX6_cutBy rmX6_cutBy g (wMX g X am) [.ref (am 0), .int x1] st (r) st := by
  refine metI_of (cc := cX6_cutBy) (nL := 4) (ty := .int) (by decide) rfl (Nat.le_of_ble_eq_true rfl) rfl ?_
  intro p e s m below meth c Q A C hret H locs hI ls hl
  have C : Cx p s m _ c cX6_cutBy 4 wsX6_cutBy RX6 g A := C
  obtain ⟨hx, hb, hml, hown, hts⟩ := id C.1
  have hl : lv_has ls 4 [(0, .ref (am 0)), (1, .int x1)] := hl
  rw [f_X6_cutBy] at h
  refine lv_iconst (v := 0) hx hb dX6_cutBy_0 (by decide) ?_
  refine lv_istore_n (lv' := [(2, .int 0), (0, .ref (am 0)), (1, .int x1)]) hx hb dX6_cutBy_1 rfl hl (by decide) rfl (fun ls hl => ?_)
  refine lv_iconst (v := 0) hx hb dX6_cutBy_2 (by decide) ?_
  refine lv_istore_n (lv' := [(3, .int 0), (2, .int 0), (0, .ref (am 0)), (1, .int x1)]) hx hb dX6_cutBy_3 rfl hl (by decide) rfl (fun ls hl => ?_)
  refine wl_X6_cutBy_L4 C st hret N x1 _ (fun a_7 a_8 H locs ls h hI hl => ?_) N 0 0 H locs ls h hI (lv_sub hl [2, 3, 1, 0] rfl)
  refine lv_iload_n hx hb dX6_cutBy_37 rfl (lv_at hl 2 rfl) ?_
  obtain rfl := ret1 h
  exact hret H locs _ ls hI dX6_cutBy_38
theorem hv_X6_cutBy : yX6_cutBy.cls = RX6 ∧ yX6_cutBy.cls ≠ "java/lang/invoke/MethodHandle" ∧ yX6_cutBy.cls ≠ "java/lang/invoke/VarHandle" ∧ (parseMethodDescriptor yX6_cutBy.desc).map (fun d => d.parameters.length) = some 1 := by decide +kernel
/-! X6_of -/
def rmX6_of : Room := { frames := 2, cells := 0, slots := 0, locals := 45 }
def f_X6_of (N : Nat) (st : St) (x1 : Int32) (x2 : Int32) : Option (Int32 × St) := bnd (f_X6_isGrave st x1) fun r_1 => if b2i r_1 = 0 then bd2 (f_X6_finding st (-100001 : Int32)) fun r_4 st_5 => some (r_4, st_5) else bnd (f_X6_within x2 0 7) fun r_6 => if b2i r_6 = 0 then bd2 (f_X6_finding st (-100001 : Int32)) fun r_17 st_18 => some (r_17, st_18) else if 6 ≤ x2 then if x2 = 6 then ck 116 (62 + x1) fun j_12 => bd1 (f_X6_many N (st 0 j_12)) fun r_14 => some (r_14, st) else bd1 (f_X6_cutBy N st x1) fun r_11 => some (r_11, st) else ck 116 ((2 + (10 * x2)) + x1) fun j_15 => some (st 0 j_15, st)
set_option maxHeartbeats 4000000 in
set_option maxRecDepth 100000 in
theorem c_X6_of (l : Launch) (g : GP) (X : va_W) (am : Nat → Nat) (N : Nat) (x1 : Int32) (x2 : Int32)  (st : St) {r : Int32} {st' : St} (h : f_X6_of N st x1 x2 = some (r, st')) : MetI l yX6_of wsX6_of rmX6_of g (wMX g X am) [.ref (am 0), .int x1, .int x2] st (r) st' := by
  refine metI_of (cc := cX6_of) (nL := 3) (ty := .int) (by decide) rfl (Nat.le_of_ble_eq_true rfl) rfl ?_
  intro p e s m below meth c Q A C hret H locs hI ls hl
  have C : Cx p s m _ c cX6_of 3 wsX6_of RX6 g A := C
  obtain ⟨hx, hb, hml, hown, hts⟩ := id C.1
  have hl : lv_has ls 3 [(0, .ref (am 0)), (1, .int x1), (2, .int x2)] := hl
  have lc48 := hts (.constant RX6 48 (-100001)) (by decide +kernel)
  have hinRX6 : ∀ w ∈ u_ws RX6 TX6 16, w ∈ wsX6_of := by decide +kernel
  have lk9 := hts (.fieldLink RX6 9 "GraveRowsModel" "now" "[I") (by decide +kernel)
  rw [f_X6_of] at h
  refine lv_aload_n hx hb dX6_of_0 rfl (lv_at hl 0 rfl) ?_
  refine lv_iload_n hx hb dX6_of_1 rfl (lv_at hl 1 rfl) ?_
  refine callV_I (rest := []) C hI (c_X6_isGrave l g X am x1 st) (cwV 1 hts gX6_of_X6_isGrave rfl rfl rfl hv_X6_isGrave ⟨Nat.le_of_ble_eq_true rfl, Nat.le_of_ble_eq_true rfl⟩) (w_recv C hI X.length wM_ob rfl) rfl hl.1 rfl (Nat.le_of_ble_eq_true rfl) dX6_of_2 (fun H locs hI => ?_)
  refine gen_b h (fun r_1 h => ?_)
  refine lv_if_eq (tgt := 18) hx hb dX6_of_5 (by decide) (fun c_2 => ?_) (fun c_2 => ?_)
  · replace h := (if_pos c_2).symm.trans h
    refine lv_aload_n hx hb dX6_of_18 rfl (lv_at hl 0 rfl) ?_
    refine lv_ldc (v := (-100001)) hx hb hown lc48 dX6_of_19 ?_
    obtain ⟨r_4, st_5, hr_3, h⟩ := bd2_some h
    refine callV_I (rest := []) C hI (c_X6_finding l g X am (-100001 : Int32) st hr_3) (cwV 1 hts gX6_of_X6_finding rfl rfl rfl hv_X6_finding ⟨Nat.le_of_ble_eq_true rfl, Nat.le_of_ble_eq_true rfl⟩) (w_recv C hI X.length wM_ob rfl) rfl hl.1 rfl (Nat.le_of_ble_eq_true rfl) dX6_of_21 (fun H locs hI => ?_)
    obtain ⟨rfl, rfl⟩ := ret2 h
    exact hret H locs _ ls hI dX6_of_24
  · replace h := (if_neg c_2).symm.trans h
    refine lv_iload_n hx hb dX6_of_8 rfl (lv_at hl 2 rfl) ?_
    refine lv_iconst (v := 0) hx hb dX6_of_9 (by decide) ?_
    refine lv_bipush (v := 7) hx hb dX6_of_10 (by decide) ?_
    refine callS_S (rest := []) C.1 (c_X6_within l x2 0 7) (va_cwS 3 hts gX6_of_X6_within rfl rfl rfl hd_X6_within ⟨Nat.le_of_ble_eq_true rfl, Nat.le_of_ble_eq_true rfl⟩) rfl hl.1 rfl (Nat.le_of_ble_eq_true rfl) dX6_of_12 ?_
    refine gen_b h (fun r_6 h => ?_)
    refine lv_if_ne (tgt := 25) hx hb dX6_of_15 (by decide) (fun c_7 => ?_) (fun c_7 => ?_)
    · replace h := (if_neg c_7).symm.trans h
      refine lv_iload_n hx hb dX6_of_25 rfl (lv_at hl 2 rfl) ?_
      refine lv_bipush (v := 6) hx hb dX6_of_26 (by decide) ?_
      refine lv_icmp_ge (tgt := 47) hx hb dX6_of_28 (by decide) (fun c_8 => ?_) (fun c_8 => ?_)
      · replace h := (if_pos c_8).symm.trans h
        refine lv_iload_n hx hb dX6_of_47 rfl (lv_at hl 2 rfl) ?_
        refine lv_bipush (v := 6) hx hb dX6_of_48 (by decide) ?_
        refine lv_icmp_ne (tgt := 68) hx hb dX6_of_50 (by decide) (fun c_9 => ?_) (fun c_9 => ?_)
        · replace h := (if_neg c_9).symm.trans h
          refine lv_aload_n hx hb dX6_of_68 rfl (lv_at hl 0 rfl) ?_
          refine lv_iload_n hx hb dX6_of_69 rfl (lv_at hl 1 rfl) ?_
          obtain ⟨r_11, hr_10, h⟩ := bd1_some h
          refine callV_I (rest := []) C hI (c_X6_cutBy l g X am N x1 st hr_10) (cwV 1 hts gX6_of_X6_cutBy rfl rfl rfl hv_X6_cutBy ⟨Nat.le_of_ble_eq_true rfl, Nat.le_of_ble_eq_true rfl⟩) (w_recv C hI X.length wM_ob rfl) rfl hl.1 rfl (Nat.le_of_ble_eq_true rfl) dX6_of_70 (fun H locs hI => ?_)
          obtain ⟨rfl, rfl⟩ := ret2 h
          exact hret H locs _ ls hI dX6_of_73
        · replace h := (if_pos c_9).symm.trans h
          refine lv_aload_n hx hb dX6_of_53 rfl (lv_at hl 0 rfl) ?_
          refine w_get (v := .ref (am 1)) C hinRX6 hI X.length wM_ob rfl 0 (by decide) lk9 rfl rfl dX6_of_54 ?_
          refine lv_bipush (v := 62) hx hb dX6_of_57 (by decide) ?_
          refine lv_iload_n hx hb dX6_of_59 rfl (lv_at hl 1 rfl) ?_
          refine lv_iadd hx hb dX6_of_60 ?_
          refine w_ld C hI (X.length + (0 + 1)) (wM_ar (by decide)) h dX6_of_61 (fun j_12 hj_12 h => ?_)
          obtain ⟨r_14, hr_13, h⟩ := bd1_some h
          refine callS_S (rest := []) C.1 (c_X6_many l N (st 0 j_12) hr_13) (va_cwS 1 hts gX6_of_X6_many rfl rfl rfl hd_X6_many ⟨Nat.le_of_ble_eq_true rfl, Nat.le_of_ble_eq_true rfl⟩) rfl hl.1 rfl (Nat.le_of_ble_eq_true rfl) dX6_of_62 ?_
          refine lv_goto (tgt := 73) hx hb dX6_of_65 (by decide) ?_
          obtain ⟨rfl, rfl⟩ := ret2 h
          exact hret H locs _ ls hI dX6_of_73
      · replace h := (if_neg c_8).symm.trans h
        refine lv_aload_n hx hb dX6_of_31 rfl (lv_at hl 0 rfl) ?_
        refine w_get (v := .ref (am 1)) C hinRX6 hI X.length wM_ob rfl 0 (by decide) lk9 rfl rfl dX6_of_32 ?_
        refine lv_iconst (v := 2) hx hb dX6_of_35 (by decide) ?_
        refine lv_bipush (v := 10) hx hb dX6_of_36 (by decide) ?_
        refine lv_iload_n hx hb dX6_of_38 rfl (lv_at hl 2 rfl) ?_
        refine lv_imul hx hb dX6_of_39 ?_
        refine lv_iadd hx hb dX6_of_40 ?_
        refine lv_iload_n hx hb dX6_of_41 rfl (lv_at hl 1 rfl) ?_
        refine lv_iadd hx hb dX6_of_42 ?_
        refine w_ld C hI (X.length + (0 + 1)) (wM_ar (by decide)) h dX6_of_43 (fun j_15 hj_15 h => ?_)
        refine lv_goto (tgt := 73) hx hb dX6_of_44 (by decide) ?_
        obtain ⟨rfl, rfl⟩ := ret2 h
        exact hret H locs _ ls hI dX6_of_73
    · replace h := (if_pos c_7).symm.trans h
      refine lv_aload_n hx hb dX6_of_18 rfl (lv_at hl 0 rfl) ?_
      refine lv_ldc (v := (-100001)) hx hb hown lc48 dX6_of_19 ?_
      obtain ⟨r_17, st_18, hr_16, h⟩ := bd2_some h
      refine callV_I (rest := []) C hI (c_X6_finding l g X am (-100001 : Int32) st hr_16) (cwV 1 hts gX6_of_X6_finding rfl rfl rfl hv_X6_finding ⟨Nat.le_of_ble_eq_true rfl, Nat.le_of_ble_eq_true rfl⟩) (w_recv C hI X.length wM_ob rfl) rfl hl.1 rfl (Nat.le_of_ble_eq_true rfl) dX6_of_21 (fun H locs hI => ?_)
      obtain ⟨rfl, rfl⟩ := ret2 h
      exact hret H locs _ ls hI dX6_of_24
theorem hv_X6_of : yX6_of.cls = RX6 ∧ yX6_of.cls ≠ "java/lang/invoke/MethodHandle" ∧ yX6_of.cls ≠ "java/lang/invoke/VarHandle" ∧ (parseMethodDescriptor yX6_of.desc).map (fun d => d.parameters.length) = some 2 := by decide +kernel
/-! X6_isYear -/
def rmX6_isYear : Room := { frames := 1, cells := 0, slots := 0, locals := 22 }
def f_X6_isYear (x0 : Int32) : Bool := bnd (f_X6_within x0 (-5000 : Int32) 5000) fun r_1 => r_1
set_option maxHeartbeats 4000000 in
set_option maxRecDepth 100000 in
theorem c_X6_isYear (l : Launch) (x0 : Int32) : MetS l yX6_isYear wsX6_isYear rmX6_isYear [.int x0] (b2i (f_X6_isYear x0)) := by
  refine metS_of (cc := cX6_isYear) (nL := 1) (ty := .boolean) (by decide) rfl (Nat.le_of_ble_eq_true rfl) (nar_b _) ?_
  intro p e s m below meth c Q C hret ls hl
  have C : CallFix p m c cX6_isYear 1 s _ wsX6_isYear RX6 := C
  obtain ⟨hx, hb, hml, hown, hts⟩ := id C
  have hl : lv_has ls 1 [(0, .int x0)] := hl
  generalize hgen : f_X6_isYear x0 = r at hret
  have h := hgen
  rw [f_X6_isYear] at h
  refine lv_iload_n hx hb dX6_isYear_0 rfl (lv_at hl 0 rfl) ?_
  refine lv_sipush (v := (-5000)) hx hb dX6_isYear_1 (by decide) ?_
  refine lv_sipush (v := 5000) hx hb dX6_isYear_4 (by decide) ?_
  refine callS_S (rest := []) C (c_X6_within l x0 (-5000 : Int32) 5000) (va_cwS 3 hts gX6_isYear_X6_within rfl rfl rfl hd_X6_within ⟨Nat.le_of_ble_eq_true rfl, Nat.le_of_ble_eq_true rfl⟩) rfl hl.1 rfl (Nat.le_of_ble_eq_true rfl) dX6_isYear_7 ?_
  refine gen_b h (fun r_1 h => ?_)
  subst h
  exact hret _ ls dX6_isYear_10
theorem hd_X6_isYear : yX6_isYear.cls ≠ "java/lang/invoke/MethodHandle" ∧ yX6_isYear.cls ≠ "java/lang/invoke/VarHandle" ∧ (parseMethodDescriptor yX6_isYear.desc).map (fun d => d.parameters.length) = some 1 := by decide +kernel
/-! X6_span -/
def rmX6_span : Room := { frames := 2, cells := 0, slots := 0, locals := 43 }
def f_X6_span (st : St) (x1 : Int32) (x2 : Int32) (x3 : Int32) : Option (Int32 × St) := bnd (f_X6_isGrave st x1) fun r_1 => if b2i r_1 = 0 then bd2 (f_X6_finding st (-100001 : Int32)) fun r_4 st_5 => some (r_4, st_5) else bnd (f_X6_isYear x2) fun r_6 => if b2i r_6 = 0 then bd2 (f_X6_finding st (-100001 : Int32)) fun r_9 st_10 => some (r_9, st_10) else bnd (f_X6_isYear x3) fun r_11 => if b2i r_11 = 0 then bd2 (f_X6_finding st (-100001 : Int32)) fun r_20 st_21 => some (r_20, st_21) else if x2 ≤ x3 then sto 116 st 0 (42 + x1) x2 fun st_14 => sto 116 st_14 0 (52 + x1) x3 fun st_15 => some (1, st_15) else bd2 (f_X6_finding st (-100003 : Int32)) fun r_17 st_18 => some (r_17, st_18)
set_option maxHeartbeats 4000000 in
set_option maxRecDepth 100000 in
theorem c_X6_span (l : Launch) (g : GP) (X : va_W) (am : Nat → Nat) (x1 : Int32) (x2 : Int32) (x3 : Int32)  (st : St) {r : Int32} {st' : St} (h : f_X6_span st x1 x2 x3 = some (r, st')) : MetI l yX6_span wsX6_span rmX6_span g (wMX g X am) [.ref (am 0), .int x1, .int x2, .int x3] st (r) st' := by
  refine metI_of (cc := cX6_span) (nL := 4) (ty := .int) (by decide) rfl (Nat.le_of_ble_eq_true rfl) rfl ?_
  intro p e s m below meth c Q A C hret H locs hI ls hl
  have C : Cx p s m _ c cX6_span 4 wsX6_span RX6 g A := C
  obtain ⟨hx, hb, hml, hown, hts⟩ := id C.1
  have hl : lv_has ls 4 [(0, .ref (am 0)), (1, .int x1), (2, .int x2), (3, .int x3)] := hl
  have lc48 := hts (.constant RX6 48 (-100001)) (by decide +kernel)
  have hinRX6 : ∀ w ∈ u_ws RX6 TX6 16, w ∈ wsX6_span := by decide +kernel
  have lk9 := hts (.fieldLink RX6 9 "GraveRowsModel" "now" "[I") (by decide +kernel)
  have lc72 := hts (.constant RX6 72 (-100003)) (by decide +kernel)
  rw [f_X6_span] at h
  refine lv_aload_n hx hb dX6_span_0 rfl (lv_at hl 0 rfl) ?_
  refine lv_iload_n hx hb dX6_span_1 rfl (lv_at hl 1 rfl) ?_
  refine callV_I (rest := []) C hI (c_X6_isGrave l g X am x1 st) (cwV 1 hts gX6_span_X6_isGrave rfl rfl rfl hv_X6_isGrave ⟨Nat.le_of_ble_eq_true rfl, Nat.le_of_ble_eq_true rfl⟩) (w_recv C hI X.length wM_ob rfl) rfl hl.1 rfl (Nat.le_of_ble_eq_true rfl) dX6_span_2 (fun H locs hI => ?_)
  refine gen_b h (fun r_1 h => ?_)
  refine lv_if_eq (tgt := 22) hx hb dX6_span_5 (by decide) (fun c_2 => ?_) (fun c_2 => ?_)
  · replace h := (if_pos c_2).symm.trans h
    refine lv_aload_n hx hb dX6_span_22 rfl (lv_at hl 0 rfl) ?_
    refine lv_ldc (v := (-100001)) hx hb hown lc48 dX6_span_23 ?_
    obtain ⟨r_4, st_5, hr_3, h⟩ := bd2_some h
    refine callV_I (rest := []) C hI (c_X6_finding l g X am (-100001 : Int32) st hr_3) (cwV 1 hts gX6_span_X6_finding rfl rfl rfl hv_X6_finding ⟨Nat.le_of_ble_eq_true rfl, Nat.le_of_ble_eq_true rfl⟩) (w_recv C hI X.length wM_ob rfl) rfl hl.1 rfl (Nat.le_of_ble_eq_true rfl) dX6_span_25 (fun H locs hI => ?_)
    obtain ⟨rfl, rfl⟩ := ret2 h
    exact hret H locs _ ls hI dX6_span_28
  · replace h := (if_neg c_2).symm.trans h
    refine lv_iload_n hx hb dX6_span_8 rfl (lv_at hl 2 rfl) ?_
    refine callS_S (rest := []) C.1 (c_X6_isYear l x2) (va_cwS 1 hts gX6_span_X6_isYear rfl rfl rfl hd_X6_isYear ⟨Nat.le_of_ble_eq_true rfl, Nat.le_of_ble_eq_true rfl⟩) rfl hl.1 rfl (Nat.le_of_ble_eq_true rfl) dX6_span_9 ?_
    refine gen_b h (fun r_6 h => ?_)
    refine lv_if_eq (tgt := 22) hx hb dX6_span_12 (by decide) (fun c_7 => ?_) (fun c_7 => ?_)
    · replace h := (if_pos c_7).symm.trans h
      refine lv_aload_n hx hb dX6_span_22 rfl (lv_at hl 0 rfl) ?_
      refine lv_ldc (v := (-100001)) hx hb hown lc48 dX6_span_23 ?_
      obtain ⟨r_9, st_10, hr_8, h⟩ := bd2_some h
      refine callV_I (rest := []) C hI (c_X6_finding l g X am (-100001 : Int32) st hr_8) (cwV 1 hts gX6_span_X6_finding rfl rfl rfl hv_X6_finding ⟨Nat.le_of_ble_eq_true rfl, Nat.le_of_ble_eq_true rfl⟩) (w_recv C hI X.length wM_ob rfl) rfl hl.1 rfl (Nat.le_of_ble_eq_true rfl) dX6_span_25 (fun H locs hI => ?_)
      obtain ⟨rfl, rfl⟩ := ret2 h
      exact hret H locs _ ls hI dX6_span_28
    · replace h := (if_neg c_7).symm.trans h
      refine lv_iload_n hx hb dX6_span_15 rfl (lv_at hl 3 rfl) ?_
      refine callS_S (rest := []) C.1 (c_X6_isYear l x3) (va_cwS 1 hts gX6_span_X6_isYear rfl rfl rfl hd_X6_isYear ⟨Nat.le_of_ble_eq_true rfl, Nat.le_of_ble_eq_true rfl⟩) rfl hl.1 rfl (Nat.le_of_ble_eq_true rfl) dX6_span_16 ?_
      refine gen_b h (fun r_11 h => ?_)
      refine lv_if_ne (tgt := 29) hx hb dX6_span_19 (by decide) (fun c_12 => ?_) (fun c_12 => ?_)
      · replace h := (if_neg c_12).symm.trans h
        refine lv_iload_n hx hb dX6_span_29 rfl (lv_at hl 2 rfl) ?_
        refine lv_iload_n hx hb dX6_span_30 rfl (lv_at hl 3 rfl) ?_
        refine lv_icmp_le (tgt := 41) hx hb dX6_span_31 (by decide) (fun c_13 => ?_) (fun c_13 => ?_)
        · replace h := (if_pos c_13).symm.trans h
          refine lv_aload_n hx hb dX6_span_41 rfl (lv_at hl 0 rfl) ?_
          refine w_get (v := .ref (am 1)) C hinRX6 hI X.length wM_ob rfl 0 (by decide) lk9 rfl rfl dX6_span_42 ?_
          refine lv_bipush (v := 42) hx hb dX6_span_45 (by decide) ?_
          refine lv_iload_n hx hb dX6_span_47 rfl (lv_at hl 1 rfl) ?_
          refine lv_iadd hx hb dX6_span_48 ?_
          refine lv_iload_n hx hb dX6_span_49 rfl (lv_at hl 2 rfl) ?_
          refine w_st C hI (X.length + (0 + 1)) (wM_ar (by decide)) (wM_setar (by decide)) h dX6_span_50 (fun st_14 H locs h hI => ?_)
          refine lv_aload_n hx hb dX6_span_51 rfl (lv_at hl 0 rfl) ?_
          refine w_get (v := .ref (am 1)) C hinRX6 hI X.length wM_ob rfl 0 (by decide) lk9 rfl rfl dX6_span_52 ?_
          refine lv_bipush (v := 52) hx hb dX6_span_55 (by decide) ?_
          refine lv_iload_n hx hb dX6_span_57 rfl (lv_at hl 1 rfl) ?_
          refine lv_iadd hx hb dX6_span_58 ?_
          refine lv_iload_n hx hb dX6_span_59 rfl (lv_at hl 3 rfl) ?_
          refine w_st C hI (X.length + (0 + 1)) (wM_ar (by decide)) (wM_setar (by decide)) h dX6_span_60 (fun st_15 H locs h hI => ?_)
          refine lv_iconst (v := 1) hx hb dX6_span_61 (by decide) ?_
          obtain ⟨rfl, rfl⟩ := ret2 h
          exact hret H locs _ ls hI dX6_span_62
        · replace h := (if_neg c_13).symm.trans h
          refine lv_aload_n hx hb dX6_span_34 rfl (lv_at hl 0 rfl) ?_
          refine lv_ldc (v := (-100003)) hx hb hown lc72 dX6_span_35 ?_
          obtain ⟨r_17, st_18, hr_16, h⟩ := bd2_some h
          refine callV_I (rest := []) C hI (c_X6_finding l g X am (-100003 : Int32) st hr_16) (cwV 1 hts gX6_span_X6_finding rfl rfl rfl hv_X6_finding ⟨Nat.le_of_ble_eq_true rfl, Nat.le_of_ble_eq_true rfl⟩) (w_recv C hI X.length wM_ob rfl) rfl hl.1 rfl (Nat.le_of_ble_eq_true rfl) dX6_span_37 (fun H locs hI => ?_)
          obtain ⟨rfl, rfl⟩ := ret2 h
          exact hret H locs _ ls hI dX6_span_40
      · replace h := (if_pos c_12).symm.trans h
        refine lv_aload_n hx hb dX6_span_22 rfl (lv_at hl 0 rfl) ?_
        refine lv_ldc (v := (-100001)) hx hb hown lc48 dX6_span_23 ?_
        obtain ⟨r_20, st_21, hr_19, h⟩ := bd2_some h
        refine callV_I (rest := []) C hI (c_X6_finding l g X am (-100001 : Int32) st hr_19) (cwV 1 hts gX6_span_X6_finding rfl rfl rfl hv_X6_finding ⟨Nat.le_of_ble_eq_true rfl, Nat.le_of_ble_eq_true rfl⟩) (w_recv C hI X.length wM_ob rfl) rfl hl.1 rfl (Nat.le_of_ble_eq_true rfl) dX6_span_25 (fun H locs hI => ?_)
        obtain ⟨rfl, rfl⟩ := ret2 h
        exact hret H locs _ ls hI dX6_span_28
theorem hv_X6_span : yX6_span.cls = RX6 ∧ yX6_span.cls ≠ "java/lang/invoke/MethodHandle" ∧ yX6_span.cls ≠ "java/lang/invoke/VarHandle" ∧ (parseMethodDescriptor yX6_span.desc).map (fun d => d.parameters.length) = some 3 := by decide +kernel
/-! X6_coin -/
def rmX6_coin : Room := { frames := 2, cells := 0, slots := 0, locals := 43 }
def f_X6_coin (st : St) (x1 : Int32) (x2 : Int32) : Option (Int32 × St) := bnd (f_X6_isGrave st x1) fun r_1 => if b2i r_1 = 0 then bd2 (f_X6_finding st (-100001 : Int32)) fun r_4 st_5 => some (r_4, st_5) else bnd (f_X6_isYear x2) fun r_6 => if b2i r_6 = 0 then bd2 (f_X6_finding st (-100001 : Int32)) fun r_22 st_23 => some (r_22, st_23) else ck 116 (2 + x1) fun j_8 => if st 0 j_8 = 3 then ck 116 (52 + x1) fun j_10 => if x2 ≤ st 0 j_10 then ck 116 (42 + x1) fun j_12 => sto 116 st 0 (42 + x1) (imax (st 0 j_12) x2) fun st_13 => ck 116 (42 + x1) fun j_14 => some (st_13 0 j_14, st_13) else bd2 (f_X6_finding st (-100003 : Int32)) fun r_16 st_17 => some (r_16, st_17) else bd2 (f_X6_finding st (-100004 : Int32)) fun r_19 st_20 => some (r_19, st_20)
set_option maxHeartbeats 4000000 in
set_option maxRecDepth 100000 in
theorem c_X6_coin (l : Launch) (g : GP) (X : va_W) (am : Nat → Nat) (x1 : Int32) (x2 : Int32)  (st : St) {r : Int32} {st' : St} (h : f_X6_coin st x1 x2 = some (r, st')) : MetI l yX6_coin wsX6_coin rmX6_coin g (wMX g X am) [.ref (am 0), .int x1, .int x2] st (r) st' := by
  refine metI_of (cc := cX6_coin) (nL := 3) (ty := .int) (by decide) rfl (Nat.le_of_ble_eq_true rfl) rfl ?_
  intro p e s m below meth c Q A C hret H locs hI ls hl
  have C : Cx p s m _ c cX6_coin 3 wsX6_coin RX6 g A := C
  obtain ⟨hx, hb, hml, hown, hts⟩ := id C.1
  have hl : lv_has ls 3 [(0, .ref (am 0)), (1, .int x1), (2, .int x2)] := hl
  have lc48 := hts (.constant RX6 48 (-100001)) (by decide +kernel)
  have hinRX6 : ∀ w ∈ u_ws RX6 TX6 16, w ∈ wsX6_coin := by decide +kernel
  have lk9 := hts (.fieldLink RX6 9 "GraveRowsModel" "now" "[I") (by decide +kernel)
  have ml73 := hts (.methodLink RX6 73 Lib.Math.max.name) (by decide +kernel)
  have msmax := hts (.static Lib.Math.max.name) (by decide +kernel)
  have mini := hts (.initialized "java/lang/Math") (by decide +kernel)
  have mcmax := hts (.code Lib.Math.max.name Lib.Math.max.code 2 (some .int)) (by decide +kernel)
  have lc72 := hts (.constant RX6 72 (-100003)) (by decide +kernel)
  have lc58 := hts (.constant RX6 58 (-100004)) (by decide +kernel)
  rw [f_X6_coin] at h
  refine lv_aload_n hx hb dX6_coin_0 rfl (lv_at hl 0 rfl) ?_
  refine lv_iload_n hx hb dX6_coin_1 rfl (lv_at hl 1 rfl) ?_
  refine callV_I (rest := []) C hI (c_X6_isGrave l g X am x1 st) (cwV 1 hts gX6_coin_X6_isGrave rfl rfl rfl hv_X6_isGrave ⟨Nat.le_of_ble_eq_true rfl, Nat.le_of_ble_eq_true rfl⟩) (w_recv C hI X.length wM_ob rfl) rfl hl.1 rfl (Nat.le_of_ble_eq_true rfl) dX6_coin_2 (fun H locs hI => ?_)
  refine gen_b h (fun r_1 h => ?_)
  refine lv_if_eq (tgt := 15) hx hb dX6_coin_5 (by decide) (fun c_2 => ?_) (fun c_2 => ?_)
  · replace h := (if_pos c_2).symm.trans h
    refine lv_aload_n hx hb dX6_coin_15 rfl (lv_at hl 0 rfl) ?_
    refine lv_ldc (v := (-100001)) hx hb hown lc48 dX6_coin_16 ?_
    obtain ⟨r_4, st_5, hr_3, h⟩ := bd2_some h
    refine callV_I (rest := []) C hI (c_X6_finding l g X am (-100001 : Int32) st hr_3) (cwV 1 hts gX6_coin_X6_finding rfl rfl rfl hv_X6_finding ⟨Nat.le_of_ble_eq_true rfl, Nat.le_of_ble_eq_true rfl⟩) (w_recv C hI X.length wM_ob rfl) rfl hl.1 rfl (Nat.le_of_ble_eq_true rfl) dX6_coin_18 (fun H locs hI => ?_)
    obtain ⟨rfl, rfl⟩ := ret2 h
    exact hret H locs _ ls hI dX6_coin_21
  · replace h := (if_neg c_2).symm.trans h
    refine lv_iload_n hx hb dX6_coin_8 rfl (lv_at hl 2 rfl) ?_
    refine callS_S (rest := []) C.1 (c_X6_isYear l x2) (va_cwS 1 hts gX6_coin_X6_isYear rfl rfl rfl hd_X6_isYear ⟨Nat.le_of_ble_eq_true rfl, Nat.le_of_ble_eq_true rfl⟩) rfl hl.1 rfl (Nat.le_of_ble_eq_true rfl) dX6_coin_9 ?_
    refine gen_b h (fun r_6 h => ?_)
    refine lv_if_ne (tgt := 22) hx hb dX6_coin_12 (by decide) (fun c_7 => ?_) (fun c_7 => ?_)
    · replace h := (if_neg c_7).symm.trans h
      refine lv_aload_n hx hb dX6_coin_22 rfl (lv_at hl 0 rfl) ?_
      refine w_get (v := .ref (am 1)) C hinRX6 hI X.length wM_ob rfl 0 (by decide) lk9 rfl rfl dX6_coin_23 ?_
      refine lv_iconst (v := 2) hx hb dX6_coin_26 (by decide) ?_
      refine lv_iload_n hx hb dX6_coin_27 rfl (lv_at hl 1 rfl) ?_
      refine lv_iadd hx hb dX6_coin_28 ?_
      refine w_ld C hI (X.length + (0 + 1)) (wM_ar (by decide)) h dX6_coin_29 (fun j_8 hj_8 h => ?_)
      refine lv_iconst (v := 3) hx hb dX6_coin_30 (by decide) ?_
      refine lv_icmp_eq (tgt := 41) hx hb dX6_coin_31 (by decide) (fun c_9 => ?_) (fun c_9 => ?_)
      · replace h := (if_pos c_9).symm.trans h
        refine lv_iload_n hx hb dX6_coin_41 rfl (lv_at hl 2 rfl) ?_
        refine lv_aload_n hx hb dX6_coin_42 rfl (lv_at hl 0 rfl) ?_
        refine w_get (v := .ref (am 1)) C hinRX6 hI X.length wM_ob rfl 0 (by decide) lk9 rfl rfl dX6_coin_43 ?_
        refine lv_bipush (v := 52) hx hb dX6_coin_46 (by decide) ?_
        refine lv_iload_n hx hb dX6_coin_48 rfl (lv_at hl 1 rfl) ?_
        refine lv_iadd hx hb dX6_coin_49 ?_
        refine w_ld C hI (X.length + (0 + 1)) (wM_ar (by decide)) h dX6_coin_50 (fun j_10 hj_10 h => ?_)
        refine lv_icmp_le (tgt := 61) hx hb dX6_coin_51 (by decide) (fun c_11 => ?_) (fun c_11 => ?_)
        · replace h := (if_pos c_11).symm.trans h
          refine lv_aload_n hx hb dX6_coin_61 rfl (lv_at hl 0 rfl) ?_
          refine w_get (v := .ref (am 1)) C hinRX6 hI X.length wM_ob rfl 0 (by decide) lk9 rfl rfl dX6_coin_62 ?_
          refine lv_bipush (v := 42) hx hb dX6_coin_65 (by decide) ?_
          refine lv_iload_n hx hb dX6_coin_67 rfl (lv_at hl 1 rfl) ?_
          refine lv_iadd hx hb dX6_coin_68 ?_
          refine lv_aload_n hx hb dX6_coin_69 rfl (lv_at hl 0 rfl) ?_
          refine w_get (v := .ref (am 1)) C hinRX6 hI X.length wM_ob rfl 0 (by decide) lk9 rfl rfl dX6_coin_70 ?_
          refine lv_bipush (v := 42) hx hb dX6_coin_73 (by decide) ?_
          refine lv_iload_n hx hb dX6_coin_75 rfl (lv_at hl 1 rfl) ?_
          refine lv_iadd hx hb dX6_coin_76 ?_
          refine w_ld C hI (X.length + (0 + 1)) (wM_ar (by decide)) h dX6_coin_77 (fun j_12 hj_12 h => ?_)
          refine lv_iload_n hx hb dX6_coin_78 rfl (lv_at hl 2 rfl) ?_
          refine w_mmax hx hb (hml.trans hl.1.symm) hown ml73 msmax mini mcmax (Nat.le_of_ble_eq_true rfl) (Nat.le_of_ble_eq_true rfl) dX6_coin_79 ?_
          refine w_st C hI (X.length + (0 + 1)) (wM_ar (by decide)) (wM_setar (by decide)) h dX6_coin_82 (fun st_13 H locs h hI => ?_)
          refine lv_aload_n hx hb dX6_coin_83 rfl (lv_at hl 0 rfl) ?_
          refine w_get (v := .ref (am 1)) C hinRX6 hI X.length wM_ob rfl 0 (by decide) lk9 rfl rfl dX6_coin_84 ?_
          refine lv_bipush (v := 42) hx hb dX6_coin_87 (by decide) ?_
          refine lv_iload_n hx hb dX6_coin_89 rfl (lv_at hl 1 rfl) ?_
          refine lv_iadd hx hb dX6_coin_90 ?_
          refine w_ld C hI (X.length + (0 + 1)) (wM_ar (by decide)) h dX6_coin_91 (fun j_14 hj_14 h => ?_)
          obtain ⟨rfl, rfl⟩ := ret2 h
          exact hret H locs _ ls hI dX6_coin_92
        · replace h := (if_neg c_11).symm.trans h
          refine lv_aload_n hx hb dX6_coin_54 rfl (lv_at hl 0 rfl) ?_
          refine lv_ldc (v := (-100003)) hx hb hown lc72 dX6_coin_55 ?_
          obtain ⟨r_16, st_17, hr_15, h⟩ := bd2_some h
          refine callV_I (rest := []) C hI (c_X6_finding l g X am (-100003 : Int32) st hr_15) (cwV 1 hts gX6_coin_X6_finding rfl rfl rfl hv_X6_finding ⟨Nat.le_of_ble_eq_true rfl, Nat.le_of_ble_eq_true rfl⟩) (w_recv C hI X.length wM_ob rfl) rfl hl.1 rfl (Nat.le_of_ble_eq_true rfl) dX6_coin_57 (fun H locs hI => ?_)
          obtain ⟨rfl, rfl⟩ := ret2 h
          exact hret H locs _ ls hI dX6_coin_60
      · replace h := (if_neg c_9).symm.trans h
        refine lv_aload_n hx hb dX6_coin_34 rfl (lv_at hl 0 rfl) ?_
        refine lv_ldc (v := (-100004)) hx hb hown lc58 dX6_coin_35 ?_
        obtain ⟨r_19, st_20, hr_18, h⟩ := bd2_some h
        refine callV_I (rest := []) C hI (c_X6_finding l g X am (-100004 : Int32) st hr_18) (cwV 1 hts gX6_coin_X6_finding rfl rfl rfl hv_X6_finding ⟨Nat.le_of_ble_eq_true rfl, Nat.le_of_ble_eq_true rfl⟩) (w_recv C hI X.length wM_ob rfl) rfl hl.1 rfl (Nat.le_of_ble_eq_true rfl) dX6_coin_37 (fun H locs hI => ?_)
        obtain ⟨rfl, rfl⟩ := ret2 h
        exact hret H locs _ ls hI dX6_coin_40
    · replace h := (if_pos c_7).symm.trans h
      refine lv_aload_n hx hb dX6_coin_15 rfl (lv_at hl 0 rfl) ?_
      refine lv_ldc (v := (-100001)) hx hb hown lc48 dX6_coin_16 ?_
      obtain ⟨r_22, st_23, hr_21, h⟩ := bd2_some h
      refine callV_I (rest := []) C hI (c_X6_finding l g X am (-100001 : Int32) st hr_21) (cwV 1 hts gX6_coin_X6_finding rfl rfl rfl hv_X6_finding ⟨Nat.le_of_ble_eq_true rfl, Nat.le_of_ble_eq_true rfl⟩) (w_recv C hI X.length wM_ob rfl) rfl hl.1 rfl (Nat.le_of_ble_eq_true rfl) dX6_coin_18 (fun H locs hI => ?_)
      obtain ⟨rfl, rfl⟩ := ret2 h
      exact hret H locs _ ls hI dX6_coin_21
theorem hv_X6_coin : yX6_coin.cls = RX6 ∧ yX6_coin.cls ≠ "java/lang/invoke/MethodHandle" ∧ yX6_coin.cls ≠ "java/lang/invoke/VarHandle" ∧ (parseMethodDescriptor yX6_coin.desc).map (fun d => d.parameters.length) = some 2 := by decide +kernel
/-! X6_below -/
def rmX6_below : Room := { frames := 0, cells := 0, slots := 0, locals := 0 }
def f_X6_below_L22 (N : Nat) (x3 : Int32) (st : St) (k : Int32 → Int32 → Option (Int32)) : Nat → Int32 → Int32 → Option (Int32)
  | 0, _, _ => none
  | n + 1, x2, x4 => if st 0 0 ≤ x4 then k x2 x4 else if (x2 >>> (x4 &&& 31)) &&& (1 : Int32) = 1 then ck 116 (62 + x4) fun j_7 => bnd (x2 ||| (st 0 j_7)) fun v_8 => f_X6_below_L22 N x3 st k n v_8 (x4 + 1) else bnd (x2 ||| (0 : Int32)) fun v_6 => f_X6_below_L22 N x3 st k n v_6 (x4 + 1)
def f_X6_below_L12 (N : Nat) (st : St) (k : Int32 → Int32 → Option (Int32)) : Nat → Int32 → Int32 → Option (Int32)
  | 0, _, _ => none
  | n + 1, x2, x3 => if x2 = x3 then k x2 x3 else f_X6_below_L22 N x2 st (fun a_9 a_10 => f_X6_below_L12 N st k n a_9 x2) N x2 0
def f_X6_below (N : Nat) (st : St) (x1 : Int32) : Option (Int32) := ck 116 (62 + x1) fun j_1 => bnd (st 0 j_1) fun v_2 => f_X6_below_L12 N st (fun a_11 a_12 => some a_11) N v_2 (-1 : Int32)
set_option maxHeartbeats 4000000 in
set_option maxRecDepth 100000 in
theorem wl_X6_below_L22 {p : Program} {l : Launch} {e : Env} {s : State} {m : MethodId} {args : Array Value} {below : List Frame} {meth : Method} {c : Code} {Q : State → Prop} {A : Nat → Prop} {g : GP} {X : va_W} {am : Nat → Nat} {r : Int32}  (C : Cx p s m args c cX6_below 5 wsX6_below RX6 g A) (st : St) (hret : RetI p l e rmX6_below s m args below meth c Q cX6_below g A (wMX g X am st) (r)) (N : Nat) (x3 : Int32)  (k : Int32 → Int32 → Option (Int32)) (hk : ∀ (x2 : Int32) (x4 : Int32) (H : Heap) (locs : List Loc) (ls : Array Slot), k x2 x4 = some r → IW g A s.heap (wMX g X am st) H locs → lv_has ls 5 [(0, .ref (am 0)), (2, .int x2), (3, .int x3), (4, .int x4)] → W p l e rmX6_below s m args below meth c H locs 0 0 Q (F0 m 66 ls [])) : ∀ (n : Nat) (x2 : Int32) (x4 : Int32) (H : Heap) (locs : List Loc) (ls : Array Slot), f_X6_below_L22 N x3 st k n x2 x4 = some r → IW g A s.heap (wMX g X am st) H locs → lv_has ls 5 [(0, .ref (am 0)), (2, .int x2), (3, .int x3), (4, .int x4)] → W p l e rmX6_below s m args below meth c H locs 0 0 Q (F0 m 22 ls []) := by
  obtain ⟨hx, hb, hml, hown, hts⟩ := id C.1
  have hinRX6 : ∀ w ∈ u_ws RX6 TX6 16, w ∈ wsX6_below := by decide +kernel
  have lk9 := hts (.fieldLink RX6 9 "GraveRowsModel" "now" "[I") (by decide +kernel)
  intro n
  induction n with
  | zero =>
    intro x2 x4 H locs ls h hI hl
    rw [f_X6_below_L22] at h
    cases h
  | succ n ih =>
    intro x2 x4 H locs ls h hI hl
    rw [f_X6_below_L22] at h
    refine lv_iload hx hb dX6_below_22 (lv_at hl 3 rfl) ?_
    refine lv_aload_n hx hb dX6_below_24 rfl (lv_at hl 0 rfl) ?_
    refine w_get (v := .ref (am 1)) C hinRX6 hI X.length wM_ob rfl 0 (by decide) lk9 rfl rfl dX6_below_25 ?_
    refine lv_iconst (v := 0) hx hb dX6_below_28 (by decide) ?_
    refine w_ldK C hI (X.length + (0 + 1)) (wM_ar (by decide)) 0 (by decide) (by decide) dX6_below_29 ?_
    refine lv_icmp_ge (tgt := 66) hx hb dX6_below_30 (by decide) (fun c_4 => ?_) (fun c_4 => ?_)
    · replace h := (if_pos c_4).symm.trans h
      exact hk _ _ _ _ _ h hI (lv_sub hl [0, 1, 2, 3] rfl)
    · replace h := (if_neg c_4).symm.trans h
      refine lv_iload_n hx hb dX6_below_33 rfl (lv_at hl 1 rfl) ?_
      refine lv_iload_n hx hb dX6_below_34 rfl (lv_at hl 1 rfl) ?_
      refine lv_iload hx hb dX6_below_35 (lv_at hl 3 rfl) ?_
      refine lv_ishr hx hb dX6_below_37 ?_
      refine lv_iconst (v := 1) hx hb dX6_below_38 (by decide) ?_
      refine lv_iand hx hb dX6_below_39 ?_
      refine lv_iconst (v := 1) hx hb dX6_below_40 (by decide) ?_
      refine lv_icmp_ne (tgt := 57) hx hb dX6_below_41 (by decide) (fun c_5 => ?_) (fun c_5 => ?_)
      · replace h := (if_neg c_5).symm.trans h
        refine lv_iconst (v := 0) hx hb dX6_below_57 (by decide) ?_
        refine lv_ior hx hb dX6_below_58 ?_
        refine gen_i h (fun v_6 h => ?_)
        refine lv_istore_n (lv' := [(2, .int v_6), (0, .ref (am 0)), (3, .int x3), (4, .int x4)]) hx hb dX6_below_59 rfl hl (by decide) rfl (fun ls hl => ?_)
        refine lv_iinc (v := x4 + 1) (lv' := [(4, .int (x4 + 1)), (2, .int v_6), (0, .ref (am 0)), (3, .int x3)]) hx hb dX6_below_60 hl (k := 3) rfl rfl (by decide) rfl (fun ls hl => ?_)
        refine lv_goto (tgt := 22) hx hb dX6_below_63 (by decide) ?_
        exact ih _ _ _ _ _ h hI (lv_sub hl [2, 1, 3, 0] rfl)
      · replace h := (if_pos c_5).symm.trans h
        refine lv_aload_n hx hb dX6_below_44 rfl (lv_at hl 0 rfl) ?_
        refine w_get (v := .ref (am 1)) C hinRX6 hI X.length wM_ob rfl 0 (by decide) lk9 rfl rfl dX6_below_45 ?_
        refine lv_bipush (v := 62) hx hb dX6_below_48 (by decide) ?_
        refine lv_iload hx hb dX6_below_50 (lv_at hl 3 rfl) ?_
        refine lv_iadd hx hb dX6_below_52 ?_
        refine w_ld C hI (X.length + (0 + 1)) (wM_ar (by decide)) h dX6_below_53 (fun j_7 hj_7 h => ?_)
        refine lv_goto (tgt := 58) hx hb dX6_below_54 (by decide) ?_
        refine lv_ior hx hb dX6_below_58 ?_
        refine gen_i h (fun v_8 h => ?_)
        refine lv_istore_n (lv' := [(2, .int v_8), (0, .ref (am 0)), (3, .int x3), (4, .int x4)]) hx hb dX6_below_59 rfl hl (by decide) rfl (fun ls hl => ?_)
        refine lv_iinc (v := x4 + 1) (lv' := [(4, .int (x4 + 1)), (2, .int v_8), (0, .ref (am 0)), (3, .int x3)]) hx hb dX6_below_60 hl (k := 3) rfl rfl (by decide) rfl (fun ls hl => ?_)
        refine lv_goto (tgt := 22) hx hb dX6_below_63 (by decide) ?_
        exact ih _ _ _ _ _ h hI (lv_sub hl [2, 1, 3, 0] rfl)
set_option maxHeartbeats 4000000 in
set_option maxRecDepth 100000 in
theorem wl_X6_below_L12 {p : Program} {l : Launch} {e : Env} {s : State} {m : MethodId} {args : Array Value} {below : List Frame} {meth : Method} {c : Code} {Q : State → Prop} {A : Nat → Prop} {g : GP} {X : va_W} {am : Nat → Nat} {r : Int32}  (C : Cx p s m args c cX6_below 5 wsX6_below RX6 g A) (st : St) (hret : RetI p l e rmX6_below s m args below meth c Q cX6_below g A (wMX g X am st) (r)) (N : Nat)  (k : Int32 → Int32 → Option (Int32)) (hk : ∀ (x2 : Int32) (x3 : Int32) (H : Heap) (locs : List Loc) (ls : Array Slot), k x2 x3 = some r → IW g A s.heap (wMX g X am st) H locs → lv_has ls 5 [(0, .ref (am 0)), (2, .int x2), (3, .int x3)] → W p l e rmX6_below s m args below meth c H locs 0 0 Q (F0 m 69 ls [])) : ∀ (n : Nat) (x2 : Int32) (x3 : Int32) (H : Heap) (locs : List Loc) (ls : Array Slot), f_X6_below_L12 N st k n x2 x3 = some r → IW g A s.heap (wMX g X am st) H locs → lv_has ls 5 [(0, .ref (am 0)), (2, .int x2), (3, .int x3)] → W p l e rmX6_below s m args below meth c H locs 0 0 Q (F0 m 12 ls []) := by
  obtain ⟨hx, hb, hml, hown, hts⟩ := id C.1
  intro n
  induction n with
  | zero =>
    intro x2 x3 H locs ls h hI hl
    rw [f_X6_below_L12] at h
    cases h
  | succ n ih =>
    intro x2 x3 H locs ls h hI hl
    rw [f_X6_below_L12] at h
    refine lv_iload_n hx hb dX6_below_12 rfl (lv_at hl 1 rfl) ?_
    refine lv_iload_n hx hb dX6_below_13 rfl (lv_at hl 2 rfl) ?_
    refine lv_icmp_eq (tgt := 69) hx hb dX6_below_14 (by decide) (fun c_3 => ?_) (fun c_3 => ?_)
    · replace h := (if_pos c_3).symm.trans h
      exact hk _ _ _ _ _ h hI (lv_sub hl [0, 1, 2] rfl)
    · replace h := (if_neg c_3).symm.trans h
      refine lv_iload_n hx hb dX6_below_17 rfl (lv_at hl 1 rfl) ?_
      refine lv_istore_n (lv' := [(3, .int x2), (0, .ref (am 0)), (2, .int x2)]) hx hb dX6_below_18 rfl hl (by decide) rfl (fun ls hl => ?_)
      refine lv_iconst (v := 0) hx hb dX6_below_19 (by decide) ?_
      refine lv_istore (lv' := [(4, .int 0), (3, .int x2), (0, .ref (am 0)), (2, .int x2)]) hx hb dX6_below_20 hl (by decide) rfl (fun ls hl => ?_)
      refine wl_X6_below_L22 C st hret N x2 _ (fun a_9 a_10 H locs ls h hI hl => ?_) N x2 0 H locs ls h hI (lv_sub hl [2, 3, 1, 0] rfl)
      refine lv_goto (tgt := 12) hx hb dX6_below_66 (by decide) ?_
      exact ih _ _ _ _ _ h hI (lv_sub hl [0, 1, 2] rfl)
set_option maxHeartbeats 4000000 in
set_option maxRecDepth 100000 in
theorem c_X6_below (l : Launch) (g : GP) (X : va_W) (am : Nat → Nat) (N : Nat) (x1 : Int32)  (st : St) {r : Int32}  (h : f_X6_below N st x1 = some r) : MetI l yX6_below wsX6_below rmX6_below g (wMX g X am) [.ref (am 0), .int x1] st (r) st := by
  refine metI_of (cc := cX6_below) (nL := 5) (ty := .int) (by decide) rfl (Nat.le_of_ble_eq_true rfl) rfl ?_
  intro p e s m below meth c Q A C hret H locs hI ls hl
  have C : Cx p s m _ c cX6_below 5 wsX6_below RX6 g A := C
  obtain ⟨hx, hb, hml, hown, hts⟩ := id C.1
  have hl : lv_has ls 5 [(0, .ref (am 0)), (1, .int x1)] := hl
  have hinRX6 : ∀ w ∈ u_ws RX6 TX6 16, w ∈ wsX6_below := by decide +kernel
  have lk9 := hts (.fieldLink RX6 9 "GraveRowsModel" "now" "[I") (by decide +kernel)
  rw [f_X6_below] at h
  refine lv_aload_n hx hb dX6_below_0 rfl (lv_at hl 0 rfl) ?_
  refine w_get (v := .ref (am 1)) C hinRX6 hI X.length wM_ob rfl 0 (by decide) lk9 rfl rfl dX6_below_1 ?_
  refine lv_bipush (v := 62) hx hb dX6_below_4 (by decide) ?_
  refine lv_iload_n hx hb dX6_below_6 rfl (lv_at hl 1 rfl) ?_
  refine lv_iadd hx hb dX6_below_7 ?_
  refine w_ld C hI (X.length + (0 + 1)) (wM_ar (by decide)) h dX6_below_8 (fun j_1 hj_1 h => ?_)
  refine gen_i h (fun v_2 h => ?_)
  refine lv_istore_n (lv' := [(2, .int v_2), (0, .ref (am 0)), (1, .int x1)]) hx hb dX6_below_9 rfl hl (by decide) rfl (fun ls hl => ?_)
  refine lv_iconst (v := (-1)) hx hb dX6_below_10 (by decide) ?_
  refine lv_istore_n (lv' := [(3, .int (-1 : Int32)), (2, .int v_2), (0, .ref (am 0)), (1, .int x1)]) hx hb dX6_below_11 rfl hl (by decide) rfl (fun ls hl => ?_)
  refine wl_X6_below_L12 C st hret N _ (fun a_11 a_12 H locs ls h hI hl => ?_) N v_2 (-1 : Int32) H locs ls h hI (lv_sub hl [2, 1, 0] rfl)
  refine lv_iload_n hx hb dX6_below_69 rfl (lv_at hl 1 rfl) ?_
  obtain rfl := ret1 h
  exact hret H locs _ ls hI dX6_below_70
theorem hv_X6_below : yX6_below.cls = RX6 ∧ yX6_below.cls ≠ "java/lang/invoke/MethodHandle" ∧ yX6_below.cls ≠ "java/lang/invoke/VarHandle" ∧ (parseMethodDescriptor yX6_below.desc).map (fun d => d.parameters.length) = some 1 := by decide +kernel
/-! X6_cut -/
def rmX6_cut : Room := { frames := 2, cells := 0, slots := 0, locals := 43 }
def f_X6_cut (N : Nat) (st : St) (x1 : Int32) (x2 : Int32) (x3 : Bool) : Option (Int32 × St) := bnd (f_X6_isGrave st x1) fun r_1 => if b2i r_1 = 0 then bd2 (f_X6_finding st (-100001 : Int32)) fun r_4 st_5 => some (r_4, st_5) else bnd (f_X6_isGrave st x2) fun r_6 => if b2i r_6 = 0 then bd2 (f_X6_finding st (-100001 : Int32)) fun r_38 st_39 => some (r_38, st_39) else if x1 = x2 then bd2 (f_X6_finding st (-100003 : Int32)) fun r_35 st_36 => some (r_35, st_36) else if b2i x3 = 0 then bd1 (f_X6_doesCut st x1 x2) fun r_11 => if b2i x3 = 0 then ck 116 (62 + x1) fun j_13 => sto 116 st 0 (62 + x1) ((st 0 j_13) &&& (((1 : Int32) <<< (x2 &&& 31)) ^^^ (-1 : Int32))) fun st_14 => if b2i r_11 = b2i x3 then some (0, st_14) else some (1, st_14) else ck 116 (62 + x1) fun j_16 => sto 116 st 0 (62 + x1) ((st 0 j_16) ||| ((1 : Int32) <<< (x2 &&& 31))) fun st_17 => if b2i r_11 = b2i x3 then some (0, st_17) else some (1, st_17) else bd1 (f_X6_below N st x2) fun r_20 => if (r_20 >>> (x1 &&& 31)) &&& (1 : Int32) = 1 then bd2 (f_X6_finding st (-100007 : Int32)) fun r_32 st_33 => some (r_32, st_33) else bd1 (f_X6_doesCut st x1 x2) fun r_23 => if b2i x3 = 0 then ck 116 (62 + x1) fun j_25 => sto 116 st 0 (62 + x1) ((st 0 j_25) &&& (((1 : Int32) <<< (x2 &&& 31)) ^^^ (-1 : Int32))) fun st_26 => if b2i r_23 = b2i x3 then some (0, st_26) else some (1, st_26) else ck 116 (62 + x1) fun j_28 => sto 116 st 0 (62 + x1) ((st 0 j_28) ||| ((1 : Int32) <<< (x2 &&& 31))) fun st_29 => if b2i r_23 = b2i x3 then some (0, st_29) else some (1, st_29)
set_option maxHeartbeats 4000000 in
set_option maxRecDepth 100000 in
theorem c_X6_cut (l : Launch) (g : GP) (X : va_W) (am : Nat → Nat) (N : Nat) (x1 : Int32) (x2 : Int32) (x3 : Bool)  (st : St) {r : Int32} {st' : St} (h : f_X6_cut N st x1 x2 x3 = some (r, st')) : MetI l yX6_cut wsX6_cut rmX6_cut g (wMX g X am) [.ref (am 0), .int x1, .int x2, .int (b2i x3)] st (r) st' := by
  refine metI_of (cc := cX6_cut) (nL := 5) (ty := .int) (by decide) rfl (Nat.le_of_ble_eq_true rfl) rfl ?_
  intro p e s m below meth c Q A C hret H locs hI ls hl
  have C : Cx p s m _ c cX6_cut 5 wsX6_cut RX6 g A := C
  obtain ⟨hx, hb, hml, hown, hts⟩ := id C.1
  have hl : lv_has ls 5 [(0, .ref (am 0)), (1, .int x1), (2, .int x2), (3, .int (b2i x3))] := hl
  have lc48 := hts (.constant RX6 48 (-100001)) (by decide +kernel)
  have hinRX6 : ∀ w ∈ u_ws RX6 TX6 16, w ∈ wsX6_cut := by decide +kernel
  have lk9 := hts (.fieldLink RX6 9 "GraveRowsModel" "now" "[I") (by decide +kernel)
  have lc82 := hts (.constant RX6 82 (-100007)) (by decide +kernel)
  have lc72 := hts (.constant RX6 72 (-100003)) (by decide +kernel)
  rw [f_X6_cut] at h
  refine lv_aload_n hx hb dX6_cut_0 rfl (lv_at hl 0 rfl) ?_
  refine lv_iload_n hx hb dX6_cut_1 rfl (lv_at hl 1 rfl) ?_
  refine callV_I (rest := []) C hI (c_X6_isGrave l g X am x1 st) (cwV 1 hts gX6_cut_X6_isGrave rfl rfl rfl hv_X6_isGrave ⟨Nat.le_of_ble_eq_true rfl, Nat.le_of_ble_eq_true rfl⟩) (w_recv C hI X.length wM_ob rfl) rfl hl.1 rfl (Nat.le_of_ble_eq_true rfl) dX6_cut_2 (fun H locs hI => ?_)
  refine gen_b h (fun r_1 h => ?_)
  refine lv_if_eq (tgt := 16) hx hb dX6_cut_5 (by decide) (fun c_2 => ?_) (fun c_2 => ?_)
  · replace h := (if_pos c_2).symm.trans h
    refine lv_aload_n hx hb dX6_cut_16 rfl (lv_at hl 0 rfl) ?_
    refine lv_ldc (v := (-100001)) hx hb hown lc48 dX6_cut_17 ?_
    obtain ⟨r_4, st_5, hr_3, h⟩ := bd2_some h
    refine callV_I (rest := []) C hI (c_X6_finding l g X am (-100001 : Int32) st hr_3) (cwV 1 hts gX6_cut_X6_finding rfl rfl rfl hv_X6_finding ⟨Nat.le_of_ble_eq_true rfl, Nat.le_of_ble_eq_true rfl⟩) (w_recv C hI X.length wM_ob rfl) rfl hl.1 rfl (Nat.le_of_ble_eq_true rfl) dX6_cut_19 (fun H locs hI => ?_)
    obtain ⟨rfl, rfl⟩ := ret2 h
    exact hret H locs _ ls hI dX6_cut_22
  · replace h := (if_neg c_2).symm.trans h
    refine lv_aload_n hx hb dX6_cut_8 rfl (lv_at hl 0 rfl) ?_
    refine lv_iload_n hx hb dX6_cut_9 rfl (lv_at hl 2 rfl) ?_
    refine callV_I (rest := []) C hI (c_X6_isGrave l g X am x2 st) (cwV 1 hts gX6_cut_X6_isGrave rfl rfl rfl hv_X6_isGrave ⟨Nat.le_of_ble_eq_true rfl, Nat.le_of_ble_eq_true rfl⟩) (w_recv C hI X.length wM_ob rfl) rfl hl.1 rfl (Nat.le_of_ble_eq_true rfl) dX6_cut_10 (fun H locs hI => ?_)
    refine gen_b h (fun r_6 h => ?_)
    refine lv_if_ne (tgt := 23) hx hb dX6_cut_13 (by decide) (fun c_7 => ?_) (fun c_7 => ?_)
    · replace h := (if_neg c_7).symm.trans h
      refine lv_iload_n hx hb dX6_cut_23 rfl (lv_at hl 1 rfl) ?_
      refine lv_iload_n hx hb dX6_cut_24 rfl (lv_at hl 2 rfl) ?_
      refine lv_icmp_ne (tgt := 35) hx hb dX6_cut_25 (by decide) (fun c_8 => ?_) (fun c_8 => ?_)
      · replace h := (if_neg c_8).symm.trans h
        refine lv_iload_n hx hb dX6_cut_35 rfl (lv_at hl 3 rfl) ?_
        refine lv_if_eq (tgt := 59) hx hb dX6_cut_36 (by decide) (fun c_9 => ?_) (fun c_9 => ?_)
        · replace h := (if_pos c_9).symm.trans h
          refine lv_aload_n hx hb dX6_cut_59 rfl (lv_at hl 0 rfl) ?_
          refine lv_iload_n hx hb dX6_cut_60 rfl (lv_at hl 1 rfl) ?_
          refine lv_iload_n hx hb dX6_cut_61 rfl (lv_at hl 2 rfl) ?_
          obtain ⟨r_11, hr_10, h⟩ := bd1_some h
          refine callV_I (rest := []) C hI (c_X6_doesCut l g X am x1 x2 st hr_10) (cwV 2 hts gX6_cut_X6_doesCut rfl rfl rfl hv_X6_doesCut ⟨Nat.le_of_ble_eq_true rfl, Nat.le_of_ble_eq_true rfl⟩) (w_recv C hI X.length wM_ob rfl) rfl hl.1 rfl (Nat.le_of_ble_eq_true rfl) dX6_cut_62 (fun H locs hI => ?_)
          refine lv_istore (lv' := [(4, .int (b2i r_11)), (0, .ref (am 0)), (1, .int x1), (2, .int x2), (3, .int (b2i x3))]) hx hb dX6_cut_65 hl (by decide) rfl (fun ls hl => ?_)
          refine lv_aload_n hx hb dX6_cut_67 rfl (lv_at hl 1 rfl) ?_
          refine w_get (v := .ref (am 1)) C hinRX6 hI X.length wM_ob rfl 0 (by decide) lk9 rfl rfl dX6_cut_68 ?_
          refine lv_bipush (v := 62) hx hb dX6_cut_71 (by decide) ?_
          refine lv_iload_n hx hb dX6_cut_73 rfl (lv_at hl 2 rfl) ?_
          refine lv_iadd hx hb dX6_cut_74 ?_
          refine lv_iload_n hx hb dX6_cut_75 rfl (lv_at hl 4 rfl) ?_
          refine lv_if_eq (tgt := 95) hx hb dX6_cut_76 (by decide) (fun c_12 => ?_) (fun c_12 => ?_)
          · replace h := (if_pos c_12).symm.trans h
            refine lv_aload_n hx hb dX6_cut_95 rfl (lv_at hl 1 rfl) ?_
            refine w_get (v := .ref (am 1)) C hinRX6 hI X.length wM_ob rfl 0 (by decide) lk9 rfl rfl dX6_cut_96 ?_
            refine lv_bipush (v := 62) hx hb dX6_cut_99 (by decide) ?_
            refine lv_iload_n hx hb dX6_cut_101 rfl (lv_at hl 2 rfl) ?_
            refine lv_iadd hx hb dX6_cut_102 ?_
            refine w_ld C hI (X.length + (0 + 1)) (wM_ar (by decide)) h dX6_cut_103 (fun j_13 hj_13 h => ?_)
            refine lv_iconst (v := 1) hx hb dX6_cut_104 (by decide) ?_
            refine lv_iload_n hx hb dX6_cut_105 rfl (lv_at hl 3 rfl) ?_
            refine lv_ishl hx hb dX6_cut_106 ?_
            refine lv_iconst (v := (-1)) hx hb dX6_cut_107 (by decide) ?_
            refine lv_ixor hx hb dX6_cut_108 ?_
            refine lv_iand hx hb dX6_cut_109 ?_
            refine w_st C hI (X.length + (0 + 1)) (wM_ar (by decide)) (wM_setar (by decide)) h dX6_cut_110 (fun st_14 H locs h hI => ?_)
            refine lv_iload hx hb dX6_cut_111 (lv_at hl 0 rfl) ?_
            refine lv_iload_n hx hb dX6_cut_113 rfl (lv_at hl 4 rfl) ?_
            refine lv_icmp_ne (tgt := 121) hx hb dX6_cut_114 (by decide) (fun c_15 => ?_) (fun c_15 => ?_)
            · replace h := (if_neg c_15).symm.trans h
              refine lv_iconst (v := 1) hx hb dX6_cut_121 (by decide) ?_
              obtain ⟨rfl, rfl⟩ := ret2 h
              exact hret H locs _ ls hI dX6_cut_122
            · replace h := (if_pos c_15).symm.trans h
              refine lv_iconst (v := 0) hx hb dX6_cut_117 (by decide) ?_
              refine lv_goto (tgt := 122) hx hb dX6_cut_118 (by decide) ?_
              obtain ⟨rfl, rfl⟩ := ret2 h
              exact hret H locs _ ls hI dX6_cut_122
          · replace h := (if_neg c_12).symm.trans h
            refine lv_aload_n hx hb dX6_cut_79 rfl (lv_at hl 1 rfl) ?_
            refine w_get (v := .ref (am 1)) C hinRX6 hI X.length wM_ob rfl 0 (by decide) lk9 rfl rfl dX6_cut_80 ?_
            refine lv_bipush (v := 62) hx hb dX6_cut_83 (by decide) ?_
            refine lv_iload_n hx hb dX6_cut_85 rfl (lv_at hl 2 rfl) ?_
            refine lv_iadd hx hb dX6_cut_86 ?_
            refine w_ld C hI (X.length + (0 + 1)) (wM_ar (by decide)) h dX6_cut_87 (fun j_16 hj_16 h => ?_)
            refine lv_iconst (v := 1) hx hb dX6_cut_88 (by decide) ?_
            refine lv_iload_n hx hb dX6_cut_89 rfl (lv_at hl 3 rfl) ?_
            refine lv_ishl hx hb dX6_cut_90 ?_
            refine lv_ior hx hb dX6_cut_91 ?_
            refine lv_goto (tgt := 110) hx hb dX6_cut_92 (by decide) ?_
            refine w_st C hI (X.length + (0 + 1)) (wM_ar (by decide)) (wM_setar (by decide)) h dX6_cut_110 (fun st_17 H locs h hI => ?_)
            refine lv_iload hx hb dX6_cut_111 (lv_at hl 0 rfl) ?_
            refine lv_iload_n hx hb dX6_cut_113 rfl (lv_at hl 4 rfl) ?_
            refine lv_icmp_ne (tgt := 121) hx hb dX6_cut_114 (by decide) (fun c_18 => ?_) (fun c_18 => ?_)
            · replace h := (if_neg c_18).symm.trans h
              refine lv_iconst (v := 1) hx hb dX6_cut_121 (by decide) ?_
              obtain ⟨rfl, rfl⟩ := ret2 h
              exact hret H locs _ ls hI dX6_cut_122
            · replace h := (if_pos c_18).symm.trans h
              refine lv_iconst (v := 0) hx hb dX6_cut_117 (by decide) ?_
              refine lv_goto (tgt := 122) hx hb dX6_cut_118 (by decide) ?_
              obtain ⟨rfl, rfl⟩ := ret2 h
              exact hret H locs _ ls hI dX6_cut_122
        · replace h := (if_neg c_9).symm.trans h
          refine lv_aload_n hx hb dX6_cut_39 rfl (lv_at hl 0 rfl) ?_
          refine lv_iload_n hx hb dX6_cut_40 rfl (lv_at hl 2 rfl) ?_
          obtain ⟨r_20, hr_19, h⟩ := bd1_some h
          refine callV_I (rest := []) C hI (c_X6_below l g X am N x2 st hr_19) (cwV 1 hts gX6_cut_X6_below rfl rfl rfl hv_X6_below ⟨Nat.le_of_ble_eq_true rfl, Nat.le_of_ble_eq_true rfl⟩) (w_recv C hI X.length wM_ob rfl) rfl hl.1 rfl (Nat.le_of_ble_eq_true rfl) dX6_cut_41 (fun H locs hI => ?_)
          refine lv_iload_n hx hb dX6_cut_44 rfl (lv_at hl 1 rfl) ?_
          refine lv_ishr hx hb dX6_cut_45 ?_
          refine lv_iconst (v := 1) hx hb dX6_cut_46 (by decide) ?_
          refine lv_iand hx hb dX6_cut_47 ?_
          refine lv_iconst (v := 1) hx hb dX6_cut_48 (by decide) ?_
          refine lv_icmp_ne (tgt := 59) hx hb dX6_cut_49 (by decide) (fun c_21 => ?_) (fun c_21 => ?_)
          · replace h := (if_neg c_21).symm.trans h
            refine lv_aload_n hx hb dX6_cut_59 rfl (lv_at hl 0 rfl) ?_
            refine lv_iload_n hx hb dX6_cut_60 rfl (lv_at hl 1 rfl) ?_
            refine lv_iload_n hx hb dX6_cut_61 rfl (lv_at hl 2 rfl) ?_
            obtain ⟨r_23, hr_22, h⟩ := bd1_some h
            refine callV_I (rest := []) C hI (c_X6_doesCut l g X am x1 x2 st hr_22) (cwV 2 hts gX6_cut_X6_doesCut rfl rfl rfl hv_X6_doesCut ⟨Nat.le_of_ble_eq_true rfl, Nat.le_of_ble_eq_true rfl⟩) (w_recv C hI X.length wM_ob rfl) rfl hl.1 rfl (Nat.le_of_ble_eq_true rfl) dX6_cut_62 (fun H locs hI => ?_)
            refine lv_istore (lv' := [(4, .int (b2i r_23)), (0, .ref (am 0)), (1, .int x1), (2, .int x2), (3, .int (b2i x3))]) hx hb dX6_cut_65 hl (by decide) rfl (fun ls hl => ?_)
            refine lv_aload_n hx hb dX6_cut_67 rfl (lv_at hl 1 rfl) ?_
            refine w_get (v := .ref (am 1)) C hinRX6 hI X.length wM_ob rfl 0 (by decide) lk9 rfl rfl dX6_cut_68 ?_
            refine lv_bipush (v := 62) hx hb dX6_cut_71 (by decide) ?_
            refine lv_iload_n hx hb dX6_cut_73 rfl (lv_at hl 2 rfl) ?_
            refine lv_iadd hx hb dX6_cut_74 ?_
            refine lv_iload_n hx hb dX6_cut_75 rfl (lv_at hl 4 rfl) ?_
            refine lv_if_eq (tgt := 95) hx hb dX6_cut_76 (by decide) (fun c_24 => ?_) (fun c_24 => ?_)
            · replace h := (if_pos c_24).symm.trans h
              refine lv_aload_n hx hb dX6_cut_95 rfl (lv_at hl 1 rfl) ?_
              refine w_get (v := .ref (am 1)) C hinRX6 hI X.length wM_ob rfl 0 (by decide) lk9 rfl rfl dX6_cut_96 ?_
              refine lv_bipush (v := 62) hx hb dX6_cut_99 (by decide) ?_
              refine lv_iload_n hx hb dX6_cut_101 rfl (lv_at hl 2 rfl) ?_
              refine lv_iadd hx hb dX6_cut_102 ?_
              refine w_ld C hI (X.length + (0 + 1)) (wM_ar (by decide)) h dX6_cut_103 (fun j_25 hj_25 h => ?_)
              refine lv_iconst (v := 1) hx hb dX6_cut_104 (by decide) ?_
              refine lv_iload_n hx hb dX6_cut_105 rfl (lv_at hl 3 rfl) ?_
              refine lv_ishl hx hb dX6_cut_106 ?_
              refine lv_iconst (v := (-1)) hx hb dX6_cut_107 (by decide) ?_
              refine lv_ixor hx hb dX6_cut_108 ?_
              refine lv_iand hx hb dX6_cut_109 ?_
              refine w_st C hI (X.length + (0 + 1)) (wM_ar (by decide)) (wM_setar (by decide)) h dX6_cut_110 (fun st_26 H locs h hI => ?_)
              refine lv_iload hx hb dX6_cut_111 (lv_at hl 0 rfl) ?_
              refine lv_iload_n hx hb dX6_cut_113 rfl (lv_at hl 4 rfl) ?_
              refine lv_icmp_ne (tgt := 121) hx hb dX6_cut_114 (by decide) (fun c_27 => ?_) (fun c_27 => ?_)
              · replace h := (if_neg c_27).symm.trans h
                refine lv_iconst (v := 1) hx hb dX6_cut_121 (by decide) ?_
                obtain ⟨rfl, rfl⟩ := ret2 h
                exact hret H locs _ ls hI dX6_cut_122
              · replace h := (if_pos c_27).symm.trans h
                refine lv_iconst (v := 0) hx hb dX6_cut_117 (by decide) ?_
                refine lv_goto (tgt := 122) hx hb dX6_cut_118 (by decide) ?_
                obtain ⟨rfl, rfl⟩ := ret2 h
                exact hret H locs _ ls hI dX6_cut_122
            · replace h := (if_neg c_24).symm.trans h
              refine lv_aload_n hx hb dX6_cut_79 rfl (lv_at hl 1 rfl) ?_
              refine w_get (v := .ref (am 1)) C hinRX6 hI X.length wM_ob rfl 0 (by decide) lk9 rfl rfl dX6_cut_80 ?_
              refine lv_bipush (v := 62) hx hb dX6_cut_83 (by decide) ?_
              refine lv_iload_n hx hb dX6_cut_85 rfl (lv_at hl 2 rfl) ?_
              refine lv_iadd hx hb dX6_cut_86 ?_
              refine w_ld C hI (X.length + (0 + 1)) (wM_ar (by decide)) h dX6_cut_87 (fun j_28 hj_28 h => ?_)
              refine lv_iconst (v := 1) hx hb dX6_cut_88 (by decide) ?_
              refine lv_iload_n hx hb dX6_cut_89 rfl (lv_at hl 3 rfl) ?_
              refine lv_ishl hx hb dX6_cut_90 ?_
              refine lv_ior hx hb dX6_cut_91 ?_
              refine lv_goto (tgt := 110) hx hb dX6_cut_92 (by decide) ?_
              refine w_st C hI (X.length + (0 + 1)) (wM_ar (by decide)) (wM_setar (by decide)) h dX6_cut_110 (fun st_29 H locs h hI => ?_)
              refine lv_iload hx hb dX6_cut_111 (lv_at hl 0 rfl) ?_
              refine lv_iload_n hx hb dX6_cut_113 rfl (lv_at hl 4 rfl) ?_
              refine lv_icmp_ne (tgt := 121) hx hb dX6_cut_114 (by decide) (fun c_30 => ?_) (fun c_30 => ?_)
              · replace h := (if_neg c_30).symm.trans h
                refine lv_iconst (v := 1) hx hb dX6_cut_121 (by decide) ?_
                obtain ⟨rfl, rfl⟩ := ret2 h
                exact hret H locs _ ls hI dX6_cut_122
              · replace h := (if_pos c_30).symm.trans h
                refine lv_iconst (v := 0) hx hb dX6_cut_117 (by decide) ?_
                refine lv_goto (tgt := 122) hx hb dX6_cut_118 (by decide) ?_
                obtain ⟨rfl, rfl⟩ := ret2 h
                exact hret H locs _ ls hI dX6_cut_122
          · replace h := (if_pos c_21).symm.trans h
            refine lv_aload_n hx hb dX6_cut_52 rfl (lv_at hl 0 rfl) ?_
            refine lv_ldc (v := (-100007)) hx hb hown lc82 dX6_cut_53 ?_
            obtain ⟨r_32, st_33, hr_31, h⟩ := bd2_some h
            refine callV_I (rest := []) C hI (c_X6_finding l g X am (-100007 : Int32) st hr_31) (cwV 1 hts gX6_cut_X6_finding rfl rfl rfl hv_X6_finding ⟨Nat.le_of_ble_eq_true rfl, Nat.le_of_ble_eq_true rfl⟩) (w_recv C hI X.length wM_ob rfl) rfl hl.1 rfl (Nat.le_of_ble_eq_true rfl) dX6_cut_55 (fun H locs hI => ?_)
            obtain ⟨rfl, rfl⟩ := ret2 h
            exact hret H locs _ ls hI dX6_cut_58
      · replace h := (if_pos c_8).symm.trans h
        refine lv_aload_n hx hb dX6_cut_28 rfl (lv_at hl 0 rfl) ?_
        refine lv_ldc (v := (-100003)) hx hb hown lc72 dX6_cut_29 ?_
        obtain ⟨r_35, st_36, hr_34, h⟩ := bd2_some h
        refine callV_I (rest := []) C hI (c_X6_finding l g X am (-100003 : Int32) st hr_34) (cwV 1 hts gX6_cut_X6_finding rfl rfl rfl hv_X6_finding ⟨Nat.le_of_ble_eq_true rfl, Nat.le_of_ble_eq_true rfl⟩) (w_recv C hI X.length wM_ob rfl) rfl hl.1 rfl (Nat.le_of_ble_eq_true rfl) dX6_cut_31 (fun H locs hI => ?_)
        obtain ⟨rfl, rfl⟩ := ret2 h
        exact hret H locs _ ls hI dX6_cut_34
    · replace h := (if_pos c_7).symm.trans h
      refine lv_aload_n hx hb dX6_cut_16 rfl (lv_at hl 0 rfl) ?_
      refine lv_ldc (v := (-100001)) hx hb hown lc48 dX6_cut_17 ?_
      obtain ⟨r_38, st_39, hr_37, h⟩ := bd2_some h
      refine callV_I (rest := []) C hI (c_X6_finding l g X am (-100001 : Int32) st hr_37) (cwV 1 hts gX6_cut_X6_finding rfl rfl rfl hv_X6_finding ⟨Nat.le_of_ble_eq_true rfl, Nat.le_of_ble_eq_true rfl⟩) (w_recv C hI X.length wM_ob rfl) rfl hl.1 rfl (Nat.le_of_ble_eq_true rfl) dX6_cut_19 (fun H locs hI => ?_)
      obtain ⟨rfl, rfl⟩ := ret2 h
      exact hret H locs _ ls hI dX6_cut_22
theorem hv_X6_cut : yX6_cut.cls = RX6 ∧ yX6_cut.cls ≠ "java/lang/invoke/MethodHandle" ∧ yX6_cut.cls ≠ "java/lang/invoke/VarHandle" ∧ (parseMethodDescriptor yX6_cut.desc).map (fun d => d.parameters.length) = some 3 := by decide +kernel
/-! X6_later -/
def rmX6_later : Room := { frames := 2, cells := 0, slots := 0, locals := 43 }
def f_X6_later (N : Nat) (st : St) (x1 : Int32) (x2 : Int32) : Option (Int32 × St) := bnd (f_X6_isGrave st x1) fun r_1 => if b2i r_1 = 0 then bd2 (f_X6_finding st (-100001 : Int32)) fun r_4 st_5 => some (r_4, st_5) else bnd (f_X6_isGrave st x2) fun r_6 => if b2i r_6 = 0 then bd2 (f_X6_finding st (-100001 : Int32)) fun r_11 st_12 => some (r_11, st_12) else bd1 (f_X6_below N st x1) fun r_9 => some ((r_9 >>> (x2 &&& 31)) &&& (1 : Int32), st)
set_option maxHeartbeats 4000000 in
set_option maxRecDepth 100000 in
theorem c_X6_later (l : Launch) (g : GP) (X : va_W) (am : Nat → Nat) (N : Nat) (x1 : Int32) (x2 : Int32)  (st : St) {r : Int32} {st' : St} (h : f_X6_later N st x1 x2 = some (r, st')) : MetI l yX6_later wsX6_later rmX6_later g (wMX g X am) [.ref (am 0), .int x1, .int x2] st (r) st' := by
  refine metI_of (cc := cX6_later) (nL := 3) (ty := .int) (by decide) rfl (Nat.le_of_ble_eq_true rfl) rfl ?_
  intro p e s m below meth c Q A C hret H locs hI ls hl
  have C : Cx p s m _ c cX6_later 3 wsX6_later RX6 g A := C
  obtain ⟨hx, hb, hml, hown, hts⟩ := id C.1
  have hl : lv_has ls 3 [(0, .ref (am 0)), (1, .int x1), (2, .int x2)] := hl
  have lc48 := hts (.constant RX6 48 (-100001)) (by decide +kernel)
  rw [f_X6_later] at h
  refine lv_aload_n hx hb dX6_later_0 rfl (lv_at hl 0 rfl) ?_
  refine lv_iload_n hx hb dX6_later_1 rfl (lv_at hl 1 rfl) ?_
  refine callV_I (rest := []) C hI (c_X6_isGrave l g X am x1 st) (cwV 1 hts gX6_later_X6_isGrave rfl rfl rfl hv_X6_isGrave ⟨Nat.le_of_ble_eq_true rfl, Nat.le_of_ble_eq_true rfl⟩) (w_recv C hI X.length wM_ob rfl) rfl hl.1 rfl (Nat.le_of_ble_eq_true rfl) dX6_later_2 (fun H locs hI => ?_)
  refine gen_b h (fun r_1 h => ?_)
  refine lv_if_eq (tgt := 16) hx hb dX6_later_5 (by decide) (fun c_2 => ?_) (fun c_2 => ?_)
  · replace h := (if_pos c_2).symm.trans h
    refine lv_aload_n hx hb dX6_later_16 rfl (lv_at hl 0 rfl) ?_
    refine lv_ldc (v := (-100001)) hx hb hown lc48 dX6_later_17 ?_
    obtain ⟨r_4, st_5, hr_3, h⟩ := bd2_some h
    refine callV_I (rest := []) C hI (c_X6_finding l g X am (-100001 : Int32) st hr_3) (cwV 1 hts gX6_later_X6_finding rfl rfl rfl hv_X6_finding ⟨Nat.le_of_ble_eq_true rfl, Nat.le_of_ble_eq_true rfl⟩) (w_recv C hI X.length wM_ob rfl) rfl hl.1 rfl (Nat.le_of_ble_eq_true rfl) dX6_later_19 (fun H locs hI => ?_)
    obtain ⟨rfl, rfl⟩ := ret2 h
    exact hret H locs _ ls hI dX6_later_22
  · replace h := (if_neg c_2).symm.trans h
    refine lv_aload_n hx hb dX6_later_8 rfl (lv_at hl 0 rfl) ?_
    refine lv_iload_n hx hb dX6_later_9 rfl (lv_at hl 2 rfl) ?_
    refine callV_I (rest := []) C hI (c_X6_isGrave l g X am x2 st) (cwV 1 hts gX6_later_X6_isGrave rfl rfl rfl hv_X6_isGrave ⟨Nat.le_of_ble_eq_true rfl, Nat.le_of_ble_eq_true rfl⟩) (w_recv C hI X.length wM_ob rfl) rfl hl.1 rfl (Nat.le_of_ble_eq_true rfl) dX6_later_10 (fun H locs hI => ?_)
    refine gen_b h (fun r_6 h => ?_)
    refine lv_if_ne (tgt := 23) hx hb dX6_later_13 (by decide) (fun c_7 => ?_) (fun c_7 => ?_)
    · replace h := (if_neg c_7).symm.trans h
      refine lv_aload_n hx hb dX6_later_23 rfl (lv_at hl 0 rfl) ?_
      refine lv_iload_n hx hb dX6_later_24 rfl (lv_at hl 1 rfl) ?_
      obtain ⟨r_9, hr_8, h⟩ := bd1_some h
      refine callV_I (rest := []) C hI (c_X6_below l g X am N x1 st hr_8) (cwV 1 hts gX6_later_X6_below rfl rfl rfl hv_X6_below ⟨Nat.le_of_ble_eq_true rfl, Nat.le_of_ble_eq_true rfl⟩) (w_recv C hI X.length wM_ob rfl) rfl hl.1 rfl (Nat.le_of_ble_eq_true rfl) dX6_later_25 (fun H locs hI => ?_)
      refine lv_iload_n hx hb dX6_later_28 rfl (lv_at hl 2 rfl) ?_
      refine lv_ishr hx hb dX6_later_29 ?_
      refine lv_iconst (v := 1) hx hb dX6_later_30 (by decide) ?_
      refine lv_iand hx hb dX6_later_31 ?_
      obtain ⟨rfl, rfl⟩ := ret2 h
      exact hret H locs _ ls hI dX6_later_32
    · replace h := (if_pos c_7).symm.trans h
      refine lv_aload_n hx hb dX6_later_16 rfl (lv_at hl 0 rfl) ?_
      refine lv_ldc (v := (-100001)) hx hb hown lc48 dX6_later_17 ?_
      obtain ⟨r_11, st_12, hr_10, h⟩ := bd2_some h
      refine callV_I (rest := []) C hI (c_X6_finding l g X am (-100001 : Int32) st hr_10) (cwV 1 hts gX6_later_X6_finding rfl rfl rfl hv_X6_finding ⟨Nat.le_of_ble_eq_true rfl, Nat.le_of_ble_eq_true rfl⟩) (w_recv C hI X.length wM_ob rfl) rfl hl.1 rfl (Nat.le_of_ble_eq_true rfl) dX6_later_19 (fun H locs hI => ?_)
      obtain ⟨rfl, rfl⟩ := ret2 h
      exact hret H locs _ ls hI dX6_later_22
theorem hv_X6_later : yX6_later.cls = RX6 ∧ yX6_later.cls ≠ "java/lang/invoke/MethodHandle" ∧ yX6_later.cls ≠ "java/lang/invoke/VarHandle" ∧ (parseMethodDescriptor yX6_later.desc).map (fun d => d.parameters.length) = some 2 := by decide +kernel
/-! X6_fill -/
def rmX6_fill : Room := { frames := 1, cells := 0, slots := 0, locals := 21 }
def f_X6_fill_L28 (N : Nat) (k : Int32 → St → Option (Int32 × St)) : Nat → Int32 → St → Option (Int32 × St)
  | 0, _, _ => none
  | n + 1, x1, st => if st 0 0 ≤ x1 then k x1 st else ck 116 (62 + x1) fun j_4 => sto 116 st 0 (62 + x1) ((st 0 j_4) &&& (((1 : Int32) <<< ((st 0 0) &&& 31)) ^^^ (-1 : Int32))) fun st_5 => f_X6_fill_L28 N k n (x1 + 1) st_5
def f_X6_fill (N : Nat) (st : St) : Option (Int32 × St) := if st 0 0 = 0 then bd2 (f_X6_finding st (-100006 : Int32)) fun r_9 st_10 => some (r_9, st_10) else bnd (sU st 0 0 ((st 0 0) - 1)) fun st_2 => f_X6_fill_L28 N (fun a_6 st_7 => some (st_7 0 0, st_7)) N 0 st_2
set_option maxHeartbeats 4000000 in
set_option maxRecDepth 100000 in
theorem wl_X6_fill_L28 {p : Program} {l : Launch} {e : Env} {s : State} {m : MethodId} {args : Array Value} {below : List Frame} {meth : Method} {c : Code} {Q : State → Prop} {A : Nat → Prop} {g : GP} {X : va_W} {am : Nat → Nat} {r : Int32} {st' : St} (C : Cx p s m args c cX6_fill 2 wsX6_fill RX6 g A) (hret : RetI p l e rmX6_fill s m args below meth c Q cX6_fill g A (wMX g X am st') (r)) (N : Nat)  (k : Int32 → St → Option (Int32 × St)) (hk : ∀ (x1 : Int32) (st : St) (H : Heap) (locs : List Loc) (ls : Array Slot), k x1 st = some (r, st') → IW g A s.heap (wMX g X am st) H locs → lv_has ls 2 [(0, .ref (am 0)), (1, .int x1)] → W p l e rmX6_fill s m args below meth c H locs 0 0 Q (F0 m 66 ls [])) : ∀ (n : Nat) (x1 : Int32) (st : St) (H : Heap) (locs : List Loc) (ls : Array Slot), f_X6_fill_L28 N k n x1 st = some (r, st') → IW g A s.heap (wMX g X am st) H locs → lv_has ls 2 [(0, .ref (am 0)), (1, .int x1)] → W p l e rmX6_fill s m args below meth c H locs 0 0 Q (F0 m 28 ls []) := by
  obtain ⟨hx, hb, hml, hown, hts⟩ := id C.1
  have hinRX6 : ∀ w ∈ u_ws RX6 TX6 16, w ∈ wsX6_fill := by decide +kernel
  have lk9 := hts (.fieldLink RX6 9 "GraveRowsModel" "now" "[I") (by decide +kernel)
  intro n
  induction n with
  | zero =>
    intro x1 st H locs ls h hI hl
    rw [f_X6_fill_L28] at h
    cases h
  | succ n ih =>
    intro x1 st H locs ls h hI hl
    rw [f_X6_fill_L28] at h
    refine lv_iload_n hx hb dX6_fill_28 rfl (lv_at hl 1 rfl) ?_
    refine lv_aload_n hx hb dX6_fill_29 rfl (lv_at hl 0 rfl) ?_
    refine w_get (v := .ref (am 1)) C hinRX6 hI X.length wM_ob rfl 0 (by decide) lk9 rfl rfl dX6_fill_30 ?_
    refine lv_iconst (v := 0) hx hb dX6_fill_33 (by decide) ?_
    refine w_ldK C hI (X.length + (0 + 1)) (wM_ar (by decide)) 0 (by decide) (by decide) dX6_fill_34 ?_
    refine lv_icmp_ge (tgt := 66) hx hb dX6_fill_35 (by decide) (fun c_3 => ?_) (fun c_3 => ?_)
    · replace h := (if_pos c_3).symm.trans h
      exact hk _ _ _ _ _ h hI (lv_sub hl [0, 1] rfl)
    · replace h := (if_neg c_3).symm.trans h
      refine lv_aload_n hx hb dX6_fill_38 rfl (lv_at hl 0 rfl) ?_
      refine w_get (v := .ref (am 1)) C hinRX6 hI X.length wM_ob rfl 0 (by decide) lk9 rfl rfl dX6_fill_39 ?_
      refine lv_bipush (v := 62) hx hb dX6_fill_42 (by decide) ?_
      refine lv_iload_n hx hb dX6_fill_44 rfl (lv_at hl 1 rfl) ?_
      refine lv_iadd hx hb dX6_fill_45 ?_
      refine lv_dup2_11 hx hb dX6_fill_46 rfl rfl ?_
      refine w_ld C hI (X.length + (0 + 1)) (wM_ar (by decide)) h dX6_fill_47 (fun j_4 hj_4 h => ?_)
      refine lv_iconst (v := 1) hx hb dX6_fill_48 (by decide) ?_
      refine lv_aload_n hx hb dX6_fill_49 rfl (lv_at hl 0 rfl) ?_
      refine w_get (v := .ref (am 1)) C hinRX6 hI X.length wM_ob rfl 0 (by decide) lk9 rfl rfl dX6_fill_50 ?_
      refine lv_iconst (v := 0) hx hb dX6_fill_53 (by decide) ?_
      refine w_ldK C hI (X.length + (0 + 1)) (wM_ar (by decide)) 0 (by decide) (by decide) dX6_fill_54 ?_
      refine lv_ishl hx hb dX6_fill_55 ?_
      refine lv_iconst (v := (-1)) hx hb dX6_fill_56 (by decide) ?_
      refine lv_ixor hx hb dX6_fill_57 ?_
      refine lv_iand hx hb dX6_fill_58 ?_
      refine w_st C hI (X.length + (0 + 1)) (wM_ar (by decide)) (wM_setar (by decide)) h dX6_fill_59 (fun st_5 H locs h hI => ?_)
      refine lv_iinc (v := x1 + 1) (lv' := [(1, .int (x1 + 1)), (0, .ref (am 0))]) hx hb dX6_fill_60 hl (k := 1) rfl rfl (by decide) rfl (fun ls hl => ?_)
      refine lv_goto (tgt := 28) hx hb dX6_fill_63 (by decide) ?_
      exact ih _ _ _ _ _ h hI (lv_sub hl [1, 0] rfl)
set_option maxHeartbeats 4000000 in
set_option maxRecDepth 100000 in
theorem c_X6_fill (l : Launch) (g : GP) (X : va_W) (am : Nat → Nat) (N : Nat)  (st : St) {r : Int32} {st' : St} (h : f_X6_fill N st = some (r, st')) : MetI l yX6_fill wsX6_fill rmX6_fill g (wMX g X am) [.ref (am 0)] st (r) st' := by
  refine metI_of (cc := cX6_fill) (nL := 2) (ty := .int) (by decide) rfl (Nat.le_of_ble_eq_true rfl) rfl ?_
  intro p e s m below meth c Q A C hret H locs hI ls hl
  have C : Cx p s m _ c cX6_fill 2 wsX6_fill RX6 g A := C
  obtain ⟨hx, hb, hml, hown, hts⟩ := id C.1
  have hl : lv_has ls 2 [(0, .ref (am 0))] := hl
  have hinRX6 : ∀ w ∈ u_ws RX6 TX6 16, w ∈ wsX6_fill := by decide +kernel
  have lk9 := hts (.fieldLink RX6 9 "GraveRowsModel" "now" "[I") (by decide +kernel)
  have lc83 := hts (.constant RX6 83 (-100006)) (by decide +kernel)
  rw [f_X6_fill] at h
  refine lv_aload_n hx hb dX6_fill_0 rfl (lv_at hl 0 rfl) ?_
  refine w_get (v := .ref (am 1)) C hinRX6 hI X.length wM_ob rfl 0 (by decide) lk9 rfl rfl dX6_fill_1 ?_
  refine lv_iconst (v := 0) hx hb dX6_fill_4 (by decide) ?_
  refine w_ldK C hI (X.length + (0 + 1)) (wM_ar (by decide)) 0 (by decide) (by decide) dX6_fill_5 ?_
  refine lv_if_ne (tgt := 16) hx hb dX6_fill_6 (by decide) (fun c_1 => ?_) (fun c_1 => ?_)
  · replace h := (if_neg c_1).symm.trans h
    refine lv_aload_n hx hb dX6_fill_16 rfl (lv_at hl 0 rfl) ?_
    refine w_get (v := .ref (am 1)) C hinRX6 hI X.length wM_ob rfl 0 (by decide) lk9 rfl rfl dX6_fill_17 ?_
    refine lv_iconst (v := 0) hx hb dX6_fill_20 (by decide) ?_
    refine lv_dup2_11 hx hb dX6_fill_21 rfl rfl ?_
    refine w_ldK C hI (X.length + (0 + 1)) (wM_ar (by decide)) 0 (by decide) (by decide) dX6_fill_22 ?_
    refine lv_iconst (v := 1) hx hb dX6_fill_23 (by decide) ?_
    refine lv_isub hx hb dX6_fill_24 ?_
    refine w_stK C hI (X.length + (0 + 1)) (wM_ar (by decide)) (wM_setar (by decide)) 0 h (by decide) (by decide) dX6_fill_25 (fun st_2 H locs h hI => ?_)
    refine lv_iconst (v := 0) hx hb dX6_fill_26 (by decide) ?_
    refine lv_istore_n (lv' := [(1, .int 0), (0, .ref (am 0))]) hx hb dX6_fill_27 rfl hl (by decide) rfl (fun ls hl => ?_)
    refine wl_X6_fill_L28 C hret N _ (fun a_6 st_7 H locs ls h hI hl => ?_) N 0 st_2 H locs ls h hI (lv_sub hl [1, 0] rfl)
    refine lv_aload_n hx hb dX6_fill_66 rfl (lv_at hl 0 rfl) ?_
    refine w_get (v := .ref (am 1)) C hinRX6 hI X.length wM_ob rfl 0 (by decide) lk9 rfl rfl dX6_fill_67 ?_
    refine lv_iconst (v := 0) hx hb dX6_fill_70 (by decide) ?_
    refine w_ldK C hI (X.length + (0 + 1)) (wM_ar (by decide)) 0 (by decide) (by decide) dX6_fill_71 ?_
    obtain ⟨rfl, rfl⟩ := ret2 h
    exact hret H locs _ ls hI dX6_fill_72
  · replace h := (if_pos c_1).symm.trans h
    refine lv_aload_n hx hb dX6_fill_9 rfl (lv_at hl 0 rfl) ?_
    refine lv_ldc (v := (-100006)) hx hb hown lc83 dX6_fill_10 ?_
    obtain ⟨r_9, st_10, hr_8, h⟩ := bd2_some h
    refine callV_I (rest := []) C hI (c_X6_finding l g X am (-100006 : Int32) st hr_8) (cwV 1 hts gX6_fill_X6_finding rfl rfl rfl hv_X6_finding ⟨Nat.le_of_ble_eq_true rfl, Nat.le_of_ble_eq_true rfl⟩) (w_recv C hI X.length wM_ob rfl) rfl hl.1 rfl (Nat.le_of_ble_eq_true rfl) dX6_fill_12 (fun H locs hI => ?_)
    obtain ⟨rfl, rfl⟩ := ret2 h
    exact hret H locs _ ls hI dX6_fill_15
theorem hv_X6_fill : yX6_fill.cls = RX6 ∧ yX6_fill.cls ≠ "java/lang/invoke/MethodHandle" ∧ yX6_fill.cls ≠ "java/lang/invoke/VarHandle" ∧ (parseMethodDescriptor yX6_fill.desc).map (fun d => d.parameters.length) = some 0 := by decide +kernel
