section
-- ===== PART A: goes FIRST, ahead of the names: the tables' words, and 'selects' of the private methods out of them =====
/-- a private method of a class that the tables say can be made, by its rows of tables_1 -/
def lw_okq (q : MethodName × Nat) : Prop := (q.1.cls ≠ "java/lang/invoke/MethodHandle" ∧ q.1.cls ≠ "java/lang/invoke/VarHandle") ∧ Cond.instantiable q.1.cls q.2 ∈ tables_1 ∧ Cond.privateMethod q.1 ∈ tables_1 ∧ Cond.instanceMethod q.1 ∈ tables_1
theorem lw_p0 : lw_okq (⟨"GraveRows", "finding", "(I)I"⟩, 7) := ⟨⟨by decide +kernel, by decide +kernel⟩, List.mem_of_getElem? (i := 12) (by decide +kernel), List.mem_of_getElem? (i := 212) (by decide +kernel), List.mem_of_getElem? (i := 213) (by decide +kernel)⟩
theorem lw_p1 : lw_okq (⟨"GraveRows$Ground", "reachedFrom", "(I)I"⟩, 7) := ⟨⟨by decide +kernel, by decide +kernel⟩, List.mem_of_getElem? (i := 20) (by decide +kernel), List.mem_of_getElem? (i := 284) (by decide +kernel), List.mem_of_getElem? (i := 285) (by decide +kernel)⟩
theorem lw_p2 : lw_okq (⟨"GraveRows", "orderHindrance", "()I"⟩, 7) := ⟨⟨by decide +kernel, by decide +kernel⟩, List.mem_of_getElem? (i := 12) (by decide +kernel), List.mem_of_getElem? (i := 357) (by decide +kernel), List.mem_of_getElem? (i := 358) (by decide +kernel)⟩
theorem lw_p3 : lw_okq (⟨"GraveRows$RowSearch", "takeIn", "(LGraveRows$Ground;I)Z"⟩, 8) := ⟨⟨by decide +kernel, by decide +kernel⟩, List.mem_of_getElem? (i := 125) (by decide +kernel), List.mem_of_getElem? (i := 366) (by decide +kernel), List.mem_of_getElem? (i := 367) (by decide +kernel)⟩
theorem lw_p4 : lw_okq (⟨"GraveRows$RowSearch", "joinGoods", "()V"⟩, 8) := ⟨⟨by decide +kernel, by decide +kernel⟩, List.mem_of_getElem? (i := 125) (by decide +kernel), List.mem_of_getElem? (i := 378) (by decide +kernel), List.mem_of_getElem? (i := 379) (by decide +kernel)⟩
theorem lw_p5 : lw_okq (⟨"GraveRows$RowSearch", "weighSets", "()V"⟩, 8) := ⟨⟨by decide +kernel, by decide +kernel⟩, List.mem_of_getElem? (i := 125) (by decide +kernel), List.mem_of_getElem? (i := 382) (by decide +kernel), List.mem_of_getElem? (i := 383) (by decide +kernel)⟩
theorem lw_p6 : lw_okq (⟨"GraveRows$RowSearch", "allGraves", "()I"⟩, 8) := ⟨⟨by decide +kernel, by decide +kernel⟩, List.mem_of_getElem? (i := 125) (by decide +kernel), List.mem_of_getElem? (i := 386) (by decide +kernel), List.mem_of_getElem? (i := 387) (by decide +kernel)⟩
theorem lw_p7 : lw_okq (⟨"GraveRows$RowSearch", "mayFollow", "(II)Z"⟩, 8) := ⟨⟨by decide +kernel, by decide +kernel⟩, List.mem_of_getElem? (i := 125) (by decide +kernel), List.mem_of_getElem? (i := 391) (by decide +kernel), List.mem_of_getElem? (i := 392) (by decide +kernel)⟩
theorem lw_p8 : lw_okq (⟨"GraveRows$RowSearch", "costThrough", "(II)I"⟩, 8) := ⟨⟨by decide +kernel, by decide +kernel⟩, List.mem_of_getElem? (i := 125) (by decide +kernel), List.mem_of_getElem? (i := 396) (by decide +kernel), List.mem_of_getElem? (i := 397) (by decide +kernel)⟩
theorem lw_p9 : lw_okq (⟨"GraveRows$RowSearch", "walkFirstRow", "()V"⟩, 8) := ⟨⟨by decide +kernel, by decide +kernel⟩, List.mem_of_getElem? (i := 125) (by decide +kernel), List.mem_of_getElem? (i := 401) (by decide +kernel), List.mem_of_getElem? (i := 402) (by decide +kernel)⟩
theorem lw_p10 : lw_okq (⟨"GraveRows", "stretchHindrance", "(I)I"⟩, 7) := ⟨⟨by decide +kernel, by decide +kernel⟩, List.mem_of_getElem? (i := 12) (by decide +kernel), List.mem_of_getElem? (i := 477) (by decide +kernel), List.mem_of_getElem? (i := 478) (by decide +kernel)⟩
theorem lw_p11 : lw_okq (⟨"GraveRows$Borders", "cheapestFree", "()I"⟩, 4) := ⟨⟨by decide +kernel, by decide +kernel⟩, List.mem_of_getElem? (i := 158) (by decide +kernel), List.mem_of_getElem? (i := 489) (by decide +kernel), List.mem_of_getElem? (i := 490) (by decide +kernel)⟩
theorem lw_p12 : lw_okq (⟨"GraveRows$Ground", "neighboursOf", "(II)I"⟩, 7) := ⟨⟨by decide +kernel, by decide +kernel⟩, List.mem_of_getElem? (i := 20) (by decide +kernel), List.mem_of_getElem? (i := 551) (by decide +kernel), List.mem_of_getElem? (i := 552) (by decide +kernel)⟩
theorem lw_p13 : lw_okq (⟨"GraveRowsModel", "finding", "(I)I"⟩, 16) := ⟨⟨by decide +kernel, by decide +kernel⟩, List.mem_of_getElem? (i := 654) (by decide +kernel), List.mem_of_getElem? (i := 717) (by decide +kernel), List.mem_of_getElem? (i := 718) (by decide +kernel)⟩
theorem lw_p14 : lw_okq (⟨"GraveRowsModel", "isGrave", "(I)Z"⟩, 16) := ⟨⟨by decide +kernel, by decide +kernel⟩, List.mem_of_getElem? (i := 654) (by decide +kernel), List.mem_of_getElem? (i := 726) (by decide +kernel), List.mem_of_getElem? (i := 727) (by decide +kernel)⟩
theorem lw_p15 : lw_okq (⟨"GraveRowsModel", "cutBy", "(I)I"⟩, 16) := ⟨⟨by decide +kernel, by decide +kernel⟩, List.mem_of_getElem? (i := 654) (by decide +kernel), List.mem_of_getElem? (i := 742) (by decide +kernel), List.mem_of_getElem? (i := 743) (by decide +kernel)⟩
def lw_privs_1 : List (MethodName × Nat) := [(⟨"GraveRows", "finding", "(I)I"⟩, 7), (⟨"GraveRows$Ground", "reachedFrom", "(I)I"⟩, 7), (⟨"GraveRows", "orderHindrance", "()I"⟩, 7), (⟨"GraveRows$RowSearch", "takeIn", "(LGraveRows$Ground;I)Z"⟩, 8), (⟨"GraveRows$RowSearch", "joinGoods", "()V"⟩, 8), (⟨"GraveRows$RowSearch", "weighSets", "()V"⟩, 8), (⟨"GraveRows$RowSearch", "allGraves", "()I"⟩, 8), (⟨"GraveRows$RowSearch", "mayFollow", "(II)Z"⟩, 8), (⟨"GraveRows$RowSearch", "costThrough", "(II)I"⟩, 8), (⟨"GraveRows$RowSearch", "walkFirstRow", "()V"⟩, 8), (⟨"GraveRows", "stretchHindrance", "(I)I"⟩, 7), (⟨"GraveRows$Borders", "cheapestFree", "()I"⟩, 4), (⟨"GraveRows$Ground", "neighboursOf", "(II)I"⟩, 7), (⟨"GraveRowsModel", "finding", "(I)I"⟩, 16), (⟨"GraveRowsModel", "isGrave", "(I)Z"⟩, 16), (⟨"GraveRowsModel", "cutBy", "(I)I"⟩, 16)]
theorem lw_r1 : ∀ q ∈ lw_privs_1, lw_okq q := List.forall_mem_cons.mpr ⟨lw_p0, List.forall_mem_cons.mpr ⟨lw_p1, List.forall_mem_cons.mpr ⟨lw_p2, List.forall_mem_cons.mpr ⟨lw_p3, List.forall_mem_cons.mpr ⟨lw_p4, List.forall_mem_cons.mpr ⟨lw_p5, List.forall_mem_cons.mpr ⟨lw_p6, List.forall_mem_cons.mpr ⟨lw_p7, List.forall_mem_cons.mpr ⟨lw_p8, List.forall_mem_cons.mpr ⟨lw_p9, List.forall_mem_cons.mpr ⟨lw_p10, List.forall_mem_cons.mpr ⟨lw_p11, List.forall_mem_cons.mpr ⟨lw_p12, List.forall_mem_cons.mpr ⟨lw_p13, List.forall_mem_cons.mpr ⟨lw_p14, List.forall_mem_cons.mpr ⟨lw_p15, fun _ h => absurd h List.not_mem_nil⟩⟩⟩⟩⟩⟩⟩⟩⟩⟩⟩⟩⟩⟩⟩⟩
theorem lw_p16 : lw_okq (⟨"GraveRowsModel", "doesCut", "(II)Z"⟩, 16) := ⟨⟨by decide +kernel, by decide +kernel⟩, List.mem_of_getElem? (i := 654) (by decide +kernel), List.mem_of_getElem? (i := 746) (by decide +kernel), List.mem_of_getElem? (i := 747) (by decide +kernel)⟩
theorem lw_p17 : lw_okq (⟨"GraveRowsModel", "below", "(I)I"⟩, 16) := ⟨⟨by decide +kernel, by decide +kernel⟩, List.mem_of_getElem? (i := 654) (by decide +kernel), List.mem_of_getElem? (i := 767) (by decide +kernel), List.mem_of_getElem? (i := 768) (by decide +kernel)⟩
theorem lw_p18 : lw_okq (⟨"GraveRowsModel", "noOrder", "()I"⟩, 16) := ⟨⟨by decide +kernel, by decide +kernel⟩, List.mem_of_getElem? (i := 654) (by decide +kernel), List.mem_of_getElem? (i := 806) (by decide +kernel), List.mem_of_getElem? (i := 807) (by decide +kernel)⟩
theorem lw_p19 : lw_okq (⟨"GraveRowsModel", "search", "(I)V"⟩, 16) := ⟨⟨by decide +kernel, by decide +kernel⟩, List.mem_of_getElem? (i := 654) (by decide +kernel), List.mem_of_getElem? (i := 811) (by decide +kernel), List.mem_of_getElem? (i := 812) (by decide +kernel)⟩
theorem lw_p20 : lw_okq (⟨"GraveRowsModel", "holesOf", "(III)I"⟩, 16) := ⟨⟨by decide +kernel, by decide +kernel⟩, List.mem_of_getElem? (i := 654) (by decide +kernel), List.mem_of_getElem? (i := 815) (by decide +kernel), List.mem_of_getElem? (i := 816) (by decide +kernel)⟩
theorem lw_p21 : lw_okq (⟨"GraveRowsModel", "mayHave", "(I)Z"⟩, 16) := ⟨⟨by decide +kernel, by decide +kernel⟩, List.mem_of_getElem? (i := 654) (by decide +kernel), List.mem_of_getElem? (i := 819) (by decide +kernel), List.mem_of_getElem? (i := 820) (by decide +kernel)⟩
theorem lw_p22 : lw_okq (⟨"GraveRowsModel", "take", "(II)V"⟩, 16) := ⟨⟨by decide +kernel, by decide +kernel⟩, List.mem_of_getElem? (i := 654) (by decide +kernel), List.mem_of_getElem? (i := 823) (by decide +kernel), List.mem_of_getElem? (i := 824) (by decide +kernel)⟩
theorem lw_p23 : lw_okq (⟨"GraveRowsModel", "holesIn", "([II)I"⟩, 16) := ⟨⟨by decide +kernel, by decide +kernel⟩, List.mem_of_getElem? (i := 654) (by decide +kernel), List.mem_of_getElem? (i := 838) (by decide +kernel), List.mem_of_getElem? (i := 839) (by decide +kernel)⟩
theorem lw_p24 : lw_okq (⟨"GraveRowsModel", "has", "(II)Z"⟩, 16) := ⟨⟨by decide +kernel, by decide +kernel⟩, List.mem_of_getElem? (i := 654) (by decide +kernel), List.mem_of_getElem? (i := 846) (by decide +kernel), List.mem_of_getElem? (i := 847) (by decide +kernel)⟩
theorem lw_p25 : lw_okq (⟨"GraveRowsModel", "noStretches", "(I)I"⟩, 16) := ⟨⟨by decide +kernel, by decide +kernel⟩, List.mem_of_getElem? (i := 654) (by decide +kernel), List.mem_of_getElem? (i := 870) (by decide +kernel), List.mem_of_getElem? (i := 871) (by decide +kernel)⟩
theorem lw_p26 : lw_okq (⟨"GraveRowsModel", "part", "(I)V"⟩, 16) := ⟨⟨by decide +kernel, by decide +kernel⟩, List.mem_of_getElem? (i := 654) (by decide +kernel), List.mem_of_getElem? (i := 874) (by decide +kernel), List.mem_of_getElem? (i := 875) (by decide +kernel)⟩
theorem lw_p27 : lw_okq (⟨"GraveRowsModel", "goesOn", "(I)I"⟩, 16) := ⟨⟨by decide +kernel, by decide +kernel⟩, List.mem_of_getElem? (i := 654) (by decide +kernel), List.mem_of_getElem? (i := 878) (by decide +kernel), List.mem_of_getElem? (i := 879) (by decide +kernel)⟩
theorem lw_p28 : lw_okq (⟨"GraveRowsModel", "yearOf", "(IZ)I"⟩, 16) := ⟨⟨by decide +kernel, by decide +kernel⟩, List.mem_of_getElem? (i := 654) (by decide +kernel), List.mem_of_getElem? (i := 893) (by decide +kernel), List.mem_of_getElem? (i := 894) (by decide +kernel)⟩
theorem lw_p29 : lw_okq (⟨"GraveRowsModel", "familyOf", "(II)I"⟩, 16) := ⟨⟨by decide +kernel, by decide +kernel⟩, List.mem_of_getElem? (i := 654) (by decide +kernel), List.mem_of_getElem? (i := 914) (by decide +kernel), List.mem_of_getElem? (i := 915) (by decide +kernel)⟩
theorem lw_p30 : lw_okq (⟨"GraveRowsModel", "leastOf", "(I)I"⟩, 16) := ⟨⟨by decide +kernel, by decide +kernel⟩, List.mem_of_getElem? (i := 654) (by decide +kernel), List.mem_of_getElem? (i := 919) (by decide +kernel), List.mem_of_getElem? (i := 920) (by decide +kernel)⟩
theorem lw_p31 : lw_okq (⟨"GraveRowsModel", "both", "(II)I"⟩, 16) := ⟨⟨by decide +kernel, by decide +kernel⟩, List.mem_of_getElem? (i := 654) (by decide +kernel), List.mem_of_getElem? (i := 931) (by decide +kernel), List.mem_of_getElem? (i := 932) (by decide +kernel)⟩
def lw_privs_2 : List (MethodName × Nat) := [(⟨"GraveRowsModel", "doesCut", "(II)Z"⟩, 16), (⟨"GraveRowsModel", "below", "(I)I"⟩, 16), (⟨"GraveRowsModel", "noOrder", "()I"⟩, 16), (⟨"GraveRowsModel", "search", "(I)V"⟩, 16), (⟨"GraveRowsModel", "holesOf", "(III)I"⟩, 16), (⟨"GraveRowsModel", "mayHave", "(I)Z"⟩, 16), (⟨"GraveRowsModel", "take", "(II)V"⟩, 16), (⟨"GraveRowsModel", "holesIn", "([II)I"⟩, 16), (⟨"GraveRowsModel", "has", "(II)Z"⟩, 16), (⟨"GraveRowsModel", "noStretches", "(I)I"⟩, 16), (⟨"GraveRowsModel", "part", "(I)V"⟩, 16), (⟨"GraveRowsModel", "goesOn", "(I)I"⟩, 16), (⟨"GraveRowsModel", "yearOf", "(IZ)I"⟩, 16), (⟨"GraveRowsModel", "familyOf", "(II)I"⟩, 16), (⟨"GraveRowsModel", "leastOf", "(I)I"⟩, 16), (⟨"GraveRowsModel", "both", "(II)I"⟩, 16)]
theorem lw_r2 : ∀ q ∈ lw_privs_2, lw_okq q := List.forall_mem_cons.mpr ⟨lw_p16, List.forall_mem_cons.mpr ⟨lw_p17, List.forall_mem_cons.mpr ⟨lw_p18, List.forall_mem_cons.mpr ⟨lw_p19, List.forall_mem_cons.mpr ⟨lw_p20, List.forall_mem_cons.mpr ⟨lw_p21, List.forall_mem_cons.mpr ⟨lw_p22, List.forall_mem_cons.mpr ⟨lw_p23, List.forall_mem_cons.mpr ⟨lw_p24, List.forall_mem_cons.mpr ⟨lw_p25, List.forall_mem_cons.mpr ⟨lw_p26, List.forall_mem_cons.mpr ⟨lw_p27, List.forall_mem_cons.mpr ⟨lw_p28, List.forall_mem_cons.mpr ⟨lw_p29, List.forall_mem_cons.mpr ⟨lw_p30, List.forall_mem_cons.mpr ⟨lw_p31, fun _ h => absurd h List.not_mem_nil⟩⟩⟩⟩⟩⟩⟩⟩⟩⟩⟩⟩⟩⟩⟩⟩
theorem lw_p32 : lw_okq (⟨"GraveRowsModel", "either", "(II)I"⟩, 16) := ⟨⟨by decide +kernel, by decide +kernel⟩, List.mem_of_getElem? (i := 654) (by decide +kernel), List.mem_of_getElem? (i := 935) (by decide +kernel), List.mem_of_getElem? (i := 936) (by decide +kernel)⟩
theorem lw_p33 : lw_okq (⟨"GraveRowsModel", "shareOf", "(IZ)J"⟩, 16) := ⟨⟨by decide +kernel, by decide +kernel⟩, List.mem_of_getElem? (i := 654) (by decide +kernel), List.mem_of_getElem? (i := 958) (by decide +kernel), List.mem_of_getElem? (i := 959) (by decide +kernel)⟩
def lw_privs_3 : List (MethodName × Nat) := [(⟨"GraveRowsModel", "either", "(II)I"⟩, 16), (⟨"GraveRowsModel", "shareOf", "(IZ)J"⟩, 16)]
theorem lw_r3 : ∀ q ∈ lw_privs_3, lw_okq q := List.forall_mem_cons.mpr ⟨lw_p32, List.forall_mem_cons.mpr ⟨lw_p33, fun _ h => absurd h List.not_mem_nil⟩⟩
def lw_privs : List (MethodName × Nat) := lw_privs_1 ++ (lw_privs_2 ++ (lw_privs_3))
def lw_tbl : List Cond := k2_sels lw_privs ++ tables_1
theorem lw_privs_ok : ∀ q ∈ lw_privs, lw_okq q := by
  show ∀ q ∈ lw_privs_1 ++ (lw_privs_2 ++ (lw_privs_3)), lw_okq q
  exact List.forall_mem_append.mpr ⟨lw_r1, List.forall_mem_append.mpr ⟨lw_r2, lw_r3⟩⟩
-- ===== end of PART A; then your names; then what follows =====
end
section
/-! ===== BEGIN words of one list among another's, by their places ===== -/
theorem goodIn_r {big : List Cond} (ws : List Cond) (ps : List Nat) (hp : ws = ps.filterMap (fun i => big[i]?)) (h : ws.all goodWord = true) : GoodIn big ws := by
  intro w hw
  have h1 := List.all_eq_true.mp h w hw
  rw [hp] at hw
  obtain ⟨i, -, hi⟩ := List.mem_filterMap.mp hw
  have hm : w ∈ big := by first | exact List.mem_of_getElem? hi | exact List.getElem?_mem hi
  exact ⟨hm, good_of_word h1⟩
theorem goodIn_app {big a b : List Cond} (ha : GoodIn big a) (hb : GoodIn big b) : GoodIn big (a ++ b) := fun w h => (List.mem_append.mp h).elim (ha w) (hb w)
theorem goodIn_ca {big a b : List Cond} {c : Cond} (ha : GoodIn big (c :: a)) (hb : GoodIn big b) : GoodIn big (c :: (a ++ b)) := fun w h => (List.mem_cons.mp h).elim (fun e => ha w (List.mem_cons.mpr (Or.inl e))) (fun h => (List.mem_append.mp h).elim (fun h => ha w (List.mem_cons.mpr (Or.inr h))) (hb w))
theorem goodIn_sub {big ws : List Cond} (hm : ∀ w ∈ ws, w ∈ big) (h : ws.all goodWord = true) : GoodIn big ws := fun w hw => ⟨hm w hw, good_of_word (List.all_eq_true.mp h w hw)⟩
/-! ===== END ===== -/

/-! ===== BEGIN printed: names, fields, word lists, decode rows ===== -/
def RX0 : String := "GraveRows$Borders"
def TX0 : u_T := fun k => match k with
  | 0 => ("GraveRows$Borders", "goingOn", "[I", true)
  | 1 => ("GraveRows$Borders", "isBorder", "[Z", true)
  | 2 => ("GraveRows$Borders", "size", "I", false)
  | _ => ("GraveRows$Borders", "total", "I", false)
def tyX0 : Nat → FieldType := fun k => match k with
  | 0 => .array .int
  | 1 => .array .boolean
  | 2 => .int
  | _ => .int
abbrev wsX00 : List Cond := u_ws RX0 TX0 4
theorem nmX0 : ∀ a, a < 4 → ∀ b, b < 4 → a ≠ b → (TX0 a).2.1 ≠ (TX0 b).2.1 := by decide +kernel
theorem tyX0_ok : ∀ k, k < 4 → parseFieldDescriptor (TX0 k).2.2.1 = some (tyX0 k) := by decide +kernel
abbrev cX0_init : ByteArray := prog_2_method_1_code
def yX0_init : MethodName := ⟨RX0, "<init>", "()V"⟩
abbrev cX0_choose : ByteArray := prog_2_method_2_code
def yX0_choose : MethodName := ⟨RX0, "choose", "(LGraveRows$RowSearch;I)V"⟩
abbrev cX0_cheapestFree : ByteArray := prog_2_method_3_code
def yX0_cheapestFree : MethodName := ⟨RX0, "cheapestFree", "()I"⟩
abbrev cX0_beginOf : ByteArray := prog_2_method_4_code
def yX0_beginOf : MethodName := ⟨RX0, "beginOf", "(I)I"⟩
def RX1 : String := "GraveRows$Grave"
def TX1 : u_T := fun k => match k with
  | 0 => ("GraveRows$Grave", "kind", "I", false)
  | 1 => ("GraveRows$Grave", "x", "I", false)
  | 2 => ("GraveRows$Grave", "y", "I", false)
  | 3 => ("GraveRows$Grave", "goods", "I", false)
  | 4 => ("GraveRows$Grave", "from", "I", false)
  | 5 => ("GraveRows$Grave", "to", "I", false)
  | 6 => ("GraveRows$Grave", "cuts", "I", false)
  | 7 => ("GraveRows$Grave", "marksTold", "I", false)
  | _ => ("GraveRows$Grave", "marksOfMan", "I", false)
def tyX1 : Nat → FieldType := fun k => match k with
  | 0 => .int
  | 1 => .int
  | 2 => .int
  | 3 => .int
  | 4 => .int
  | 5 => .int
  | 6 => .int
  | 7 => .int
  | _ => .int
abbrev wsX10 : List Cond := u_ws RX1 TX1 9
theorem nmX1 : ∀ a, a < 9 → ∀ b, b < 9 → a ≠ b → (TX1 a).2.1 ≠ (TX1 b).2.1 := by decide +kernel
theorem tyX1_ok : ∀ k, k < 9 → parseFieldDescriptor (TX1 k).2.2.1 = some (tyX1 k) := by decide +kernel
abbrev cX1_init : ByteArray := prog_3_method_1_code
def yX1_init : MethodName := ⟨RX1, "<init>", "()V"⟩
abbrev cX1_become : ByteArray := prog_3_method_2_code
def yX1_become : MethodName := ⟨RX1, "become", "(LGraveRows$Grave;)V"⟩
abbrev cX1_beginAs : ByteArray := prog_3_method_3_code
def yX1_beginAs : MethodName := ⟨RX1, "beginAs", "(III)V"⟩
abbrev cX1_isOfKind : ByteArray := prog_3_method_4_code
def yX1_isOfKind : MethodName := ⟨RX1, "isOfKind", "(I)Z"⟩
abbrev cX1_goodsSurelyLacked : ByteArray := prog_3_method_5_code
def yX1_goodsSurelyLacked : MethodName := ⟨RX1, "goodsSurelyLacked", "()I"⟩
abbrev cX1_isWithin : ByteArray := prog_3_method_6_code
def yX1_isWithin : MethodName := ⟨RX1, "isWithin", "(ILGraveRows$Grave;)Z"⟩
abbrev cX1_setMark : ByteArray := prog_3_method_7_code
def yX1_setMark : MethodName := ⟨RX1, "setMark", "(IZ)Z"⟩
def RX2 : String := "GraveRows$Ground"
def TX2 : u_T := fun k => match k with
  | 0 => ("GraveRows$Ground", "graves", "[LGraveRows$Grave;", true)
  | 1 => ("GraveRows$Ground", "weightsOfMan", "[I", true)
  | 2 => ("GraveRows$Ground", "weightsOfWoman", "[I", true)
  | 3 => ("GraveRows$Ground", "waiting", "[I", true)
  | 4 => ("GraveRows$Ground", "steps", "[I", true)
  | 5 => ("GraveRows$Ground", "size", "I", false)
  | _ => ("GraveRows$Ground", "waits", "I", false)
def tyX2 : Nat → FieldType := fun k => match k with
  | 0 => .array (.object "GraveRows$Grave")
  | 1 => .array .int
  | 2 => .array .int
  | 3 => .array .int
  | 4 => .array .int
  | 5 => .int
  | _ => .int
abbrev wsX20 : List Cond := u_ws RX2 TX2 7
theorem nmX2 : ∀ a, a < 7 → ∀ b, b < 7 → a ≠ b → (TX2 a).2.1 ≠ (TX2 b).2.1 := by decide +kernel
theorem tyX2_ok : ∀ k, k < 7 → parseFieldDescriptor (TX2 k).2.2.1 = some (tyX2 k) := by decide +kernel
abbrev cX2_init : ByteArray := prog_4_method_1_code
def yX2_init : MethodName := ⟨RX2, "<init>", "()V"⟩
abbrev cX2_become : ByteArray := prog_4_method_2_code
def yX2_become : MethodName := ⟨RX2, "become", "(LGraveRows$Ground;)V"⟩
abbrev cX2_holds : ByteArray := prog_4_method_3_code
def yX2_holds : MethodName := ⟨RX2, "holds", "(I)Z"⟩
abbrev cX2_open : ByteArray := prog_4_method_4_code
def yX2_open : MethodName := ⟨RX2, "open", "(III)I"⟩
abbrev cX2_closeLast : ByteArray := prog_4_method_5_code
def yX2_closeLast : MethodName := ⟨RX2, "closeLast", "()V"⟩
abbrev cX2_setCut : ByteArray := prog_4_method_6_code
def yX2_setCut : MethodName := ⟨RX2, "setCut", "(IIZ)Z"⟩
abbrev cX2_countCuts : ByteArray := prog_4_method_7_code
def yX2_countCuts : MethodName := ⟨RX2, "countCuts", "()I"⟩
abbrev cX2_cuttersOf : ByteArray := prog_4_method_8_code
def yX2_cuttersOf : MethodName := ⟨RX2, "cuttersOf", "(I)I"⟩
abbrev cX2_earlierThan : ByteArray := prog_4_method_9_code
def yX2_earlierThan : MethodName := ⟨RX2, "earlierThan", "(I)I"⟩
abbrev cX2_laterThan : ByteArray := prog_4_method_10_code
def yX2_laterThan : MethodName := ⟨RX2, "laterThan", "(I)I"⟩
abbrev cX2_reachedFrom : ByteArray := prog_4_method_11_code
def yX2_reachedFrom : MethodName := ⟨RX2, "reachedFrom", "(I)I"⟩
abbrev cX2_earliestOf : ByteArray := prog_4_method_12_code
def yX2_earliestOf : MethodName := ⟨RX2, "earliestOf", "(I)I"⟩
abbrev cX2_latestOf : ByteArray := prog_4_method_13_code
def yX2_latestOf : MethodName := ⟨RX2, "latestOf", "(I)I"⟩
abbrev cX2_leastEarliest : ByteArray := prog_4_method_14_code
def yX2_leastEarliest : MethodName := ⟨RX2, "leastEarliest", "(I)I"⟩
abbrev cX2_greatestLatest : ByteArray := prog_4_method_15_code
def yX2_greatestLatest : MethodName := ⟨RX2, "greatestLatest", "(I)I"⟩
abbrev cX2_havers : ByteArray := prog_4_method_16_code
def yX2_havers : MethodName := ⟨RX2, "havers", "(I)I"⟩
abbrev cX2_fitsBehind : ByteArray := prog_4_method_17_code
def yX2_fitsBehind : MethodName := ⟨RX2, "fitsBehind", "(III)Z"⟩
abbrev cX2_costOfWaiting : ByteArray := prog_4_method_18_code
def yX2_costOfWaiting : MethodName := ⟨RX2, "costOfWaiting", "()I"⟩
abbrev cX2_familyOf : ByteArray := prog_4_method_19_code
def yX2_familyOf : MethodName := ⟨RX2, "familyOf", "(II)I"⟩
abbrev cX2_neighboursOf : ByteArray := prog_4_method_20_code
def yX2_neighboursOf : MethodName := ⟨RX2, "neighboursOf", "(II)I"⟩
abbrev cX2_sharedGoods : ByteArray := prog_4_method_21_code
def yX2_sharedGoods : MethodName := ⟨RX2, "sharedGoods", "(II)I"⟩
abbrev cX2_joinedGoods : ByteArray := prog_4_method_22_code
def yX2_joinedGoods : MethodName := ⟨RX2, "joinedGoods", "(II)I"⟩
abbrev cX2_mostLike : ByteArray := prog_4_method_23_code
def yX2_mostLike : MethodName := ⟨RX2, "mostLike", "(I)I"⟩
abbrev cX2_weightsFor : ByteArray := prog_4_method_24_code
def yX2_weightsFor : MethodName := ⟨RX2, "weightsFor", "(Z)[I"⟩
abbrev cX2_productOfMarks : ByteArray := prog_4_method_25_code
def yX2_productOfMarks : MethodName := ⟨RX2, "productOfMarks", "(IZ)J"⟩
abbrev cX2_whose : ByteArray := prog_4_method_26_code
def yX2_whose : MethodName := ⟨RX2, "whose", "(I)I"⟩
def RX3 : String := "GraveRows$RowSearch"
def TX3 : u_T := fun k => match k with
  | 0 => ("GraveRows$RowSearch", "goods", "[I", true)
  | 1 => ("GraveRows$RowSearch", "lacked", "[I", true)
  | 2 => ("GraveRows$RowSearch", "cuts", "[I", true)
  | 3 => ("GraveRows$RowSearch", "goodsOfSet", "[I", true)
  | 4 => ("GraveRows$RowSearch", "costBehind", "[I", true)
  | 5 => ("GraveRows$RowSearch", "waysBehind", "[I", true)
  | 6 => ("GraveRows$RowSearch", "row", "[I", true)
  | _ => ("GraveRows$RowSearch", "size", "I", false)
def tyX3 : Nat → FieldType := fun k => match k with
  | 0 => .array .int
  | 1 => .array .int
  | 2 => .array .int
  | 3 => .array .int
  | 4 => .array .int
  | 5 => .array .int
  | 6 => .array .int
  | _ => .int
abbrev wsX30 : List Cond := u_ws RX3 TX3 8
theorem nmX3 : ∀ a, a < 8 → ∀ b, b < 8 → a ≠ b → (TX3 a).2.1 ≠ (TX3 b).2.1 := by decide +kernel
theorem tyX3_ok : ∀ k, k < 8 → parseFieldDescriptor (TX3 k).2.2.1 = some (tyX3 k) := by decide +kernel
abbrev cX3_init : ByteArray := prog_5_method_1_code
def yX3_init : MethodName := ⟨RX3, "<init>", "()V"⟩
abbrev cX3_solve : ByteArray := prog_5_method_2_code
def yX3_solve : MethodName := ⟨RX3, "solve", "(LGraveRows$Ground;I)V"⟩
abbrev cX3_takeIn : ByteArray := prog_5_method_3_code
def yX3_takeIn : MethodName := ⟨RX3, "takeIn", "(LGraveRows$Ground;I)Z"⟩
abbrev cX3_allGraves : ByteArray := prog_5_method_4_code
def yX3_allGraves : MethodName := ⟨RX3, "allGraves", "()I"⟩
abbrev cX3_joinGoods : ByteArray := prog_5_method_5_code
def yX3_joinGoods : MethodName := ⟨RX3, "joinGoods", "()V"⟩
abbrev cX3_weighSets : ByteArray := prog_5_method_6_code
def yX3_weighSets : MethodName := ⟨RX3, "weighSets", "()V"⟩
abbrev cX3_walkFirstRow : ByteArray := prog_5_method_7_code
def yX3_walkFirstRow : MethodName := ⟨RX3, "walkFirstRow", "()V"⟩
abbrev cX3_mayFollow : ByteArray := prog_5_method_8_code
def yX3_mayFollow : MethodName := ⟨RX3, "mayFollow", "(II)Z"⟩
abbrev cX3_costThrough : ByteArray := prog_5_method_9_code
def yX3_costThrough : MethodName := ⟨RX3, "costThrough", "(II)I"⟩
abbrev cX3_leastCost : ByteArray := prog_5_method_10_code
def yX3_leastCost : MethodName := ⟨RX3, "leastCost", "()I"⟩
abbrev cX3_leastWays : ByteArray := prog_5_method_11_code
def yX3_leastWays : MethodName := ⟨RX3, "leastWays", "()I"⟩
abbrev cX3_firstPlaceOf : ByteArray := prog_5_method_12_code
def yX3_firstPlaceOf : MethodName := ⟨RX3, "firstPlaceOf", "(I)I"⟩
abbrev cX3_lastPlaceOf : ByteArray := prog_5_method_13_code
def yX3_lastPlaceOf : MethodName := ⟨RX3, "lastPlaceOf", "(I)I"⟩
abbrev cX3_holesOf : ByteArray := prog_5_method_14_code
def yX3_holesOf : MethodName := ⟨RX3, "holesOf", "(I)I"⟩
abbrev cX3_goingOnAt : ByteArray := prog_5_method_15_code
def yX3_goingOnAt : MethodName := ⟨RX3, "goingOnAt", "(I)I"⟩
def RX4 : String := "GraveRows$Sheet"
def TX4 : u_T := fun k => match k with
  | 0 => ("GraveRows$Sheet", "numbers", "[I", true)
  | 1 => ("GraveRows$Sheet", "bits", "I", false)
  | _ => ("GraveRows$Sheet", "length", "I", false)
def tyX4 : Nat → FieldType := fun k => match k with
  | 0 => .array .int
  | 1 => .int
  | _ => .int
abbrev wsX40 : List Cond := u_ws RX4 TX4 3
theorem nmX4 : ∀ a, a < 3 → ∀ b, b < 3 → a ≠ b → (TX4 a).2.1 ≠ (TX4 b).2.1 := by decide +kernel
theorem tyX4_ok : ∀ k, k < 3 → parseFieldDescriptor (TX4 k).2.2.1 = some (tyX4 k) := by decide +kernel
abbrev cX4_init : ByteArray := prog_6_method_1_code
def yX4_init : MethodName := ⟨RX4, "<init>", "()V"⟩
abbrev cX4_isMissing : ByteArray := prog_6_method_2_code
def yX4_isMissing : MethodName := ⟨RX4, "isMissing", "()Z"⟩
abbrev cX4_become : ByteArray := prog_6_method_3_code
def yX4_become : MethodName := ⟨RX4, "become", "(II)V"⟩
abbrev cX4_write : ByteArray := prog_6_method_4_code
def yX4_write : MethodName := ⟨RX4, "write", "(II)V"⟩
abbrev cX4_hasStretch : ByteArray := prog_6_method_5_code
def yX4_hasStretch : MethodName := ⟨RX4, "hasStretch", "(II)Z"⟩
abbrev cX4_goodsReadInto : ByteArray := prog_6_method_6_code
def yX4_goodsReadInto : MethodName := ⟨RX4, "goodsReadInto", "(I)I"⟩
def RX5 : String := "GraveRows"
def TX5 : u_T := fun k => match k with
  | 0 => ("GraveRows", "ground", "LGraveRows$Ground;", true)
  | 1 => ("GraveRows", "kept", "LGraveRows$Ground;", true)
  | 2 => ("GraveRows", "sheets", "[LGraveRows$Sheet;", true)
  | 3 => ("GraveRows", "search", "LGraveRows$RowSearch;", true)
  | 4 => ("GraveRows", "borders", "LGraveRows$Borders;", true)
  | 5 => ("GraveRows", "isKept", "Z", false)
  | _ => ("GraveRows", "findings", "I", false)
def tyX5 : Nat → FieldType := fun k => match k with
  | 0 => .object "GraveRows$Ground"
  | 1 => .object "GraveRows$Ground"
  | 2 => .array (.object "GraveRows$Sheet")
  | 3 => .object "GraveRows$RowSearch"
  | 4 => .object "GraveRows$Borders"
  | 5 => .boolean
  | _ => .int
abbrev wsX50 : List Cond := u_ws RX5 TX5 7
theorem nmX5 : ∀ a, a < 7 → ∀ b, b < 7 → a ≠ b → (TX5 a).2.1 ≠ (TX5 b).2.1 := by decide +kernel
theorem tyX5_ok : ∀ k, k < 7 → parseFieldDescriptor (TX5 k).2.2.1 = some (tyX5 k) := by decide +kernel
abbrev cX5_init : ByteArray := prog_1_method_1_code
def yX5_init : MethodName := ⟨RX5, "<init>", "()V"⟩
abbrev cX5_grave : ByteArray := prog_1_method_2_code
def yX5_grave : MethodName := ⟨RX5, "grave", "(III)I"⟩
abbrev cX5_as : ByteArray := prog_1_method_3_code
def yX5_as : MethodName := ⟨RX5, "as", "(II)I"⟩
abbrev cX5_goods : ByteArray := prog_1_method_4_code
def yX5_goods : MethodName := ⟨RX5, "goods", "(II)I"⟩
abbrev cX5_of : ByteArray := prog_1_method_5_code
def yX5_of : MethodName := ⟨RX5, "of", "(II)I"⟩
abbrev cX5_span : ByteArray := prog_1_method_6_code
def yX5_span : MethodName := ⟨RX5, "span", "(III)I"⟩
abbrev cX5_coin : ByteArray := prog_1_method_7_code
def yX5_coin : MethodName := ⟨RX5, "coin", "(II)I"⟩
abbrev cX5_cut : ByteArray := prog_1_method_8_code
def yX5_cut : MethodName := ⟨RX5, "cut", "(IIZ)I"⟩
abbrev cX5_later : ByteArray := prog_1_method_9_code
def yX5_later : MethodName := ⟨RX5, "later", "(II)I"⟩
abbrev cX5_fill : ByteArray := prog_1_method_10_code
def yX5_fill : MethodName := ⟨RX5, "fill", "()I"⟩
abbrev cX5_sheet : ByteArray := prog_1_method_11_code
def yX5_sheet : MethodName := ⟨RX5, "sheet", "(III)I"⟩
abbrev cX5_put : ByteArray := prog_1_method_12_code
def yX5_put : MethodName := ⟨RX5, "put", "(III)I"⟩
abbrev cX5_copy : ByteArray := prog_1_method_13_code
def yX5_copy : MethodName := ⟨RX5, "copy", "(IIIII)I"⟩
abbrev cX5_read : ByteArray := prog_1_method_14_code
def yX5_read : MethodName := ⟨RX5, "read", "(II)I"⟩
abbrev cX5_order : ByteArray := prog_1_method_15_code
def yX5_order : MethodName := ⟨RX5, "order", "()I"⟩
abbrev cX5_at : ByteArray := prog_1_method_16_code
def yX5_at : MethodName := ⟨RX5, "at", "(I)I"⟩
abbrev cX5_holes : ByteArray := prog_1_method_17_code
def yX5_holes : MethodName := ⟨RX5, "holes", "(I)I"⟩
abbrev cX5_good : ByteArray := prog_1_method_18_code
def yX5_good : MethodName := ⟨RX5, "good", "(IZ)I"⟩
abbrev cX5_tell : ByteArray := prog_1_method_19_code
def yX5_tell : MethodName := ⟨RX5, "tell", "(I)I"⟩
abbrev cX5_check : ByteArray := prog_1_method_20_code
def yX5_check : MethodName := ⟨RX5, "check", "()I"⟩
abbrev cX5_without : ByteArray := prog_1_method_21_code
def yX5_without : MethodName := ⟨RX5, "without", "(I)I"⟩
abbrev cX5_ways : ByteArray := prog_1_method_22_code
def yX5_ways : MethodName := ⟨RX5, "ways", "()I"⟩
abbrev cX5_stretches : ByteArray := prog_1_method_23_code
def yX5_stretches : MethodName := ⟨RX5, "stretches", "(I)I"⟩
abbrev cX5_border : ByteArray := prog_1_method_24_code
def yX5_border : MethodName := ⟨RX5, "border", "(II)I"⟩
abbrev cX5_year : ByteArray := prog_1_method_25_code
def yX5_year : MethodName := ⟨RX5, "year", "(IZ)I"⟩
abbrev cX5_wrong : ByteArray := prog_1_method_26_code
def yX5_wrong : MethodName := ⟨RX5, "wrong", "()I"⟩
abbrev cX5_in : ByteArray := prog_1_method_27_code
def yX5_in : MethodName := ⟨RX5, "in", "(I)I"⟩
abbrev cX5_used : ByteArray := prog_1_method_28_code
def yX5_used : MethodName := ⟨RX5, "used", "(IZ)I"⟩
abbrev cX5_family : ByteArray := prog_1_method_29_code
def yX5_family : MethodName := ⟨RX5, "family", "(II)I"⟩
abbrev cX5_families : ByteArray := prog_1_method_30_code
def yX5_families : MethodName := ⟨RX5, "families", "(I)I"⟩
abbrev cX5_like : ByteArray := prog_1_method_31_code
def yX5_like : MethodName := ⟨RX5, "like", "(IIZ)I"⟩
abbrev cX5_nearest : ByteArray := prog_1_method_32_code
def yX5_nearest : MethodName := ⟨RX5, "nearest", "(I)I"⟩
abbrev cX5_mark : ByteArray := prog_1_method_33_code
def yX5_mark : MethodName := ⟨RX5, "mark", "(IIZ)I"⟩
abbrev cX5_weigh : ByteArray := prog_1_method_34_code
def yX5_weigh : MethodName := ⟨RX5, "weigh", "(IZI)I"⟩
abbrev cX5_share : ByteArray := prog_1_method_35_code
def yX5_share : MethodName := ⟨RX5, "share", "(IZ)J"⟩
abbrev cX5_people : ByteArray := prog_1_method_36_code
def yX5_people : MethodName := ⟨RX5, "people", "(I)I"⟩
abbrev cX5_keep : ByteArray := prog_1_method_37_code
def yX5_keep : MethodName := ⟨RX5, "keep", "()I"⟩
abbrev cX5_back : ByteArray := prog_1_method_38_code
def yX5_back : MethodName := ⟨RX5, "back", "()I"⟩
abbrev cX5_told : ByteArray := prog_1_method_39_code
def yX5_told : MethodName := ⟨RX5, "told", "(I)I"⟩
abbrev cX5_finding : ByteArray := prog_1_method_40_code
def yX5_finding : MethodName := ⟨RX5, "finding", "(I)I"⟩
abbrev cX5_orderHindrance : ByteArray := prog_1_method_41_code
def yX5_orderHindrance : MethodName := ⟨RX5, "orderHindrance", "()I"⟩
abbrev cX5_stretchHindrance : ByteArray := prog_1_method_42_code
def yX5_stretchHindrance : MethodName := ⟨RX5, "stretchHindrance", "(I)I"⟩
abbrev cX5_isKind : ByteArray := prog_1_method_43_code
def yX5_isKind : MethodName := ⟨RX5, "isKind", "(I)Z"⟩
abbrev cX5_isDistance : ByteArray := prog_1_method_44_code
def yX5_isDistance : MethodName := ⟨RX5, "isDistance", "(I)Z"⟩
abbrev cX5_isYear : ByteArray := prog_1_method_45_code
def yX5_isYear : MethodName := ⟨RX5, "isYear", "(I)Z"⟩
abbrev cX5_isGood : ByteArray := prog_1_method_46_code
def yX5_isGood : MethodName := ⟨RX5, "isGood", "(I)Z"⟩
abbrev cX5_isMark : ByteArray := prog_1_method_47_code
def yX5_isMark : MethodName := ⟨RX5, "isMark", "(I)Z"⟩
abbrev cX5_isSheet : ByteArray := prog_1_method_48_code
def yX5_isSheet : MethodName := ⟨RX5, "isSheet", "(I)Z"⟩
abbrev cX5_isWidth : ByteArray := prog_1_method_49_code
def yX5_isWidth : MethodName := ⟨RX5, "isWidth", "(I)Z"⟩
abbrev cX5_isIn : ByteArray := prog_1_method_50_code
def yX5_isIn : MethodName := ⟨RX5, "isIn", "(II)Z"⟩
abbrev cX5_commonDivisor : ByteArray := prog_1_method_51_code
def yX5_commonDivisor : MethodName := ⟨RX5, "commonDivisor", "(II)I"⟩
def RX6 : String := "GraveRowsModel"
def TX6 : u_T := fun k => match k with
  | 0 => ("GraveRowsModel", "now", "[I", true)
  | 1 => ("GraveRowsModel", "kept", "[I", true)
  | 2 => ("GraveRowsModel", "isKept", "Z", false)
  | 3 => ("GraveRowsModel", "findings", "I", false)
  | 4 => ("GraveRowsModel", "bits", "[I", true)
  | 5 => ("GraveRowsModel", "sizes", "[I", true)
  | 6 => ("GraveRowsModel", "sheets", "[I", true)
  | 7 => ("GraveRowsModel", "carried", "[I", true)
  | 8 => ("GraveRowsModel", "least", "I", false)
  | 9 => ("GraveRowsModel", "ways", "I", false)
  | 10 => ("GraveRowsModel", "best", "[I", true)
  | 11 => ("GraveRowsModel", "row", "[I", true)
  | 12 => ("GraveRowsModel", "costs", "[I", true)
  | 13 => ("GraveRowsModel", "tried", "[I", true)
  | 14 => ("GraveRowsModel", "fewest", "I", false)
  | _ => ("GraveRowsModel", "borders", "I", false)
def tyX6 : Nat → FieldType := fun k => match k with
  | 0 => .array .int
  | 1 => .array .int
  | 2 => .boolean
  | 3 => .int
  | 4 => .array .int
  | 5 => .array .int
  | 6 => .array .int
  | 7 => .array .int
  | 8 => .int
  | 9 => .int
  | 10 => .array .int
  | 11 => .array .int
  | 12 => .array .int
  | 13 => .array .int
  | 14 => .int
  | _ => .int
abbrev wsX60 : List Cond := u_ws RX6 TX6 16
theorem nmX6 : ∀ a, a < 16 → ∀ b, b < 16 → a ≠ b → (TX6 a).2.1 ≠ (TX6 b).2.1 := by decide +kernel
theorem tyX6_ok : ∀ k, k < 16 → parseFieldDescriptor (TX6 k).2.2.1 = some (tyX6 k) := by decide +kernel
abbrev cX6_init : ByteArray := prog_8_method_1_code
def yX6_init : MethodName := ⟨RX6, "<init>", "()V"⟩
abbrev cX6_finding : ByteArray := prog_8_method_2_code
def yX6_finding : MethodName := ⟨RX6, "finding", "(I)I"⟩
abbrev cX6_within : ByteArray := prog_8_method_3_code
def yX6_within : MethodName := ⟨RX6, "within", "(III)Z"⟩
abbrev cX6_isGrave : ByteArray := prog_8_method_4_code
def yX6_isGrave : MethodName := ⟨RX6, "isGrave", "(I)Z"⟩
abbrev cX6_isGood : ByteArray := prog_8_method_5_code
def yX6_isGood : MethodName := ⟨RX6, "isGood", "(I)Z"⟩
abbrev cX6_many : ByteArray := prog_8_method_6_code
def yX6_many : MethodName := ⟨RX6, "many", "(I)I"⟩
abbrev cX6_grave : ByteArray := prog_8_method_7_code
def yX6_grave : MethodName := ⟨RX6, "grave", "(III)I"⟩
abbrev cX6_as : ByteArray := prog_8_method_8_code
def yX6_as : MethodName := ⟨RX6, "as", "(II)I"⟩
abbrev cX6_goods : ByteArray := prog_8_method_9_code
def yX6_goods : MethodName := ⟨RX6, "goods", "(II)I"⟩
abbrev cX6_doesCut : ByteArray := prog_8_method_10_code
def yX6_doesCut : MethodName := ⟨RX6, "doesCut", "(II)Z"⟩
abbrev cX6_cutBy : ByteArray := prog_8_method_11_code
def yX6_cutBy : MethodName := ⟨RX6, "cutBy", "(I)I"⟩
abbrev cX6_of : ByteArray := prog_8_method_12_code
def yX6_of : MethodName := ⟨RX6, "of", "(II)I"⟩
abbrev cX6_isYear : ByteArray := prog_8_method_13_code
def yX6_isYear : MethodName := ⟨RX6, "isYear", "(I)Z"⟩
abbrev cX6_span : ByteArray := prog_8_method_14_code
def yX6_span : MethodName := ⟨RX6, "span", "(III)I"⟩
abbrev cX6_coin : ByteArray := prog_8_method_15_code
def yX6_coin : MethodName := ⟨RX6, "coin", "(II)I"⟩
abbrev cX6_below : ByteArray := prog_8_method_16_code
def yX6_below : MethodName := ⟨RX6, "below", "(I)I"⟩
abbrev cX6_cut : ByteArray := prog_8_method_17_code
def yX6_cut : MethodName := ⟨RX6, "cut", "(IIZ)I"⟩
abbrev cX6_later : ByteArray := prog_8_method_18_code
def yX6_later : MethodName := ⟨RX6, "later", "(II)I"⟩
abbrev cX6_fill : ByteArray := prog_8_method_19_code
def yX6_fill : MethodName := ⟨RX6, "fill", "()I"⟩
abbrev cX6_isSheet : ByteArray := prog_8_method_20_code
def yX6_isSheet : MethodName := ⟨RX6, "isSheet", "(I)Z"⟩
abbrev cX6_sheet : ByteArray := prog_8_method_21_code
def yX6_sheet : MethodName := ⟨RX6, "sheet", "(III)I"⟩
abbrev cX6_put : ByteArray := prog_8_method_22_code
def yX6_put : MethodName := ⟨RX6, "put", "(III)I"⟩
abbrev cX6_copy : ByteArray := prog_8_method_23_code
def yX6_copy : MethodName := ⟨RX6, "copy", "(IIIII)I"⟩
abbrev cX6_read : ByteArray := prog_8_method_24_code
def yX6_read : MethodName := ⟨RX6, "read", "(II)I"⟩
abbrev cX6_mayHave : ByteArray := prog_8_method_25_code
def yX6_mayHave : MethodName := ⟨RX6, "mayHave", "(I)Z"⟩
abbrev cX6_holesOf : ByteArray := prog_8_method_26_code
def yX6_holesOf : MethodName := ⟨RX6, "holesOf", "(III)I"⟩
abbrev cX6_search : ByteArray := prog_8_method_27_code
def yX6_search : MethodName := ⟨RX6, "search", "(I)V"⟩
abbrev cX6_take : ByteArray := prog_8_method_28_code
def yX6_take : MethodName := ⟨RX6, "take", "(II)V"⟩
abbrev cX6_noOrder : ByteArray := prog_8_method_29_code
def yX6_noOrder : MethodName := ⟨RX6, "noOrder", "()I"⟩
abbrev cX6_order : ByteArray := prog_8_method_30_code
def yX6_order : MethodName := ⟨RX6, "order", "()I"⟩
abbrev cX6_at : ByteArray := prog_8_method_31_code
def yX6_at : MethodName := ⟨RX6, "at", "(I)I"⟩
abbrev cX6_holesIn : ByteArray := prog_8_method_32_code
def yX6_holesIn : MethodName := ⟨RX6, "holesIn", "([II)I"⟩
abbrev cX6_holes : ByteArray := prog_8_method_33_code
def yX6_holes : MethodName := ⟨RX6, "holes", "(I)I"⟩
abbrev cX6_has : ByteArray := prog_8_method_34_code
def yX6_has : MethodName := ⟨RX6, "has", "(II)Z"⟩
abbrev cX6_good : ByteArray := prog_8_method_35_code
def yX6_good : MethodName := ⟨RX6, "good", "(IZ)I"⟩
abbrev cX6_tell : ByteArray := prog_8_method_36_code
def yX6_tell : MethodName := ⟨RX6, "tell", "(I)I"⟩
abbrev cX6_check : ByteArray := prog_8_method_37_code
def yX6_check : MethodName := ⟨RX6, "check", "()I"⟩
abbrev cX6_without : ByteArray := prog_8_method_38_code
def yX6_without : MethodName := ⟨RX6, "without", "(I)I"⟩
abbrev cX6_ways : ByteArray := prog_8_method_39_code
def yX6_ways : MethodName := ⟨RX6, "ways", "()I"⟩
abbrev cX6_goesOn : ByteArray := prog_8_method_40_code
def yX6_goesOn : MethodName := ⟨RX6, "goesOn", "(I)I"⟩
abbrev cX6_part : ByteArray := prog_8_method_41_code
def yX6_part : MethodName := ⟨RX6, "part", "(I)V"⟩
abbrev cX6_isEarlier : ByteArray := prog_8_method_42_code
def yX6_isEarlier : MethodName := ⟨RX6, "isEarlier", "(II)Z"⟩
abbrev cX6_noStretches : ByteArray := prog_8_method_43_code
def yX6_noStretches : MethodName := ⟨RX6, "noStretches", "(I)I"⟩
abbrev cX6_stretches : ByteArray := prog_8_method_44_code
def yX6_stretches : MethodName := ⟨RX6, "stretches", "(I)I"⟩
abbrev cX6_border : ByteArray := prog_8_method_45_code
def yX6_border : MethodName := ⟨RX6, "border", "(II)I"⟩
abbrev cX6_yearOf : ByteArray := prog_8_method_46_code
def yX6_yearOf : MethodName := ⟨RX6, "yearOf", "(IZ)I"⟩
abbrev cX6_year : ByteArray := prog_8_method_47_code
def yX6_year : MethodName := ⟨RX6, "year", "(IZ)I"⟩
abbrev cX6_wrong : ByteArray := prog_8_method_48_code
def yX6_wrong : MethodName := ⟨RX6, "wrong", "()I"⟩
abbrev cX6_in : ByteArray := prog_8_method_49_code
def yX6_in : MethodName := ⟨RX6, "in", "(I)I"⟩
abbrev cX6_used : ByteArray := prog_8_method_50_code
def yX6_used : MethodName := ⟨RX6, "used", "(IZ)I"⟩
abbrev cX6_familyOf : ByteArray := prog_8_method_51_code
def yX6_familyOf : MethodName := ⟨RX6, "familyOf", "(II)I"⟩
abbrev cX6_leastOf : ByteArray := prog_8_method_52_code
def yX6_leastOf : MethodName := ⟨RX6, "leastOf", "(I)I"⟩
abbrev cX6_family : ByteArray := prog_8_method_53_code
def yX6_family : MethodName := ⟨RX6, "family", "(II)I"⟩
abbrev cX6_families : ByteArray := prog_8_method_54_code
def yX6_families : MethodName := ⟨RX6, "families", "(I)I"⟩
abbrev cX6_both : ByteArray := prog_8_method_55_code
def yX6_both : MethodName := ⟨RX6, "both", "(II)I"⟩
abbrev cX6_either : ByteArray := prog_8_method_56_code
def yX6_either : MethodName := ⟨RX6, "either", "(II)I"⟩
abbrev cX6_like : ByteArray := prog_8_method_57_code
def yX6_like : MethodName := ⟨RX6, "like", "(IIZ)I"⟩
abbrev cX6_nearest : ByteArray := prog_8_method_58_code
def yX6_nearest : MethodName := ⟨RX6, "nearest", "(I)I"⟩
abbrev cX6_isMark : ByteArray := prog_8_method_59_code
def yX6_isMark : MethodName := ⟨RX6, "isMark", "(I)Z"⟩
abbrev cX6_mark : ByteArray := prog_8_method_60_code
def yX6_mark : MethodName := ⟨RX6, "mark", "(IIZ)I"⟩
abbrev cX6_weigh : ByteArray := prog_8_method_61_code
def yX6_weigh : MethodName := ⟨RX6, "weigh", "(IZI)I"⟩
abbrev cX6_shareOf : ByteArray := prog_8_method_62_code
def yX6_shareOf : MethodName := ⟨RX6, "shareOf", "(IZ)J"⟩
abbrev cX6_share : ByteArray := prog_8_method_63_code
def yX6_share : MethodName := ⟨RX6, "share", "(IZ)J"⟩
abbrev cX6_people : ByteArray := prog_8_method_64_code
def yX6_people : MethodName := ⟨RX6, "people", "(I)I"⟩
abbrev cX6_keep : ByteArray := prog_8_method_65_code
def yX6_keep : MethodName := ⟨RX6, "keep", "()I"⟩
abbrev cX6_back : ByteArray := prog_8_method_66_code
def yX6_back : MethodName := ⟨RX6, "back", "()I"⟩
abbrev cX6_told : ByteArray := prog_8_method_67_code
def yX6_told : MethodName := ⟨RX6, "told", "(I)I"⟩
def RJ6 : String := "java/lang/Integer"
def TJ6 : u_T := fun k => match k with
  | _ => ("", "", "", false)
def tyJ6 : Nat → FieldType := fun k => match k with
  | _ => .int
abbrev wsJ60 : List Cond := u_ws RJ6 TJ6 0
theorem nmJ6 : ∀ a, a < 0 → ∀ b, b < 0 → a ≠ b → (TJ6 a).2.1 ≠ (TJ6 b).2.1 := by decide +kernel
theorem tyJ6_ok : ∀ k, k < 0 → parseFieldDescriptor (TJ6 k).2.2.1 = some (tyJ6 k) := by decide +kernel
abbrev cJ6_bitCount_0f7a4 : ByteArray := prog_9_method_49_code
def yJ6_bitCount_0f7a4 : MethodName := ⟨RJ6, "bitCount", "(I)I"⟩
def RJ9 : String := "java/lang/Math"
def TJ9 : u_T := fun k => match k with
  | _ => ("", "", "", false)
def tyJ9 : Nat → FieldType := fun k => match k with
  | _ => .int
abbrev wsJ90 : List Cond := u_ws RJ9 TJ9 0
theorem nmJ9 : ∀ a, a < 0 → ∀ b, b < 0 → a ≠ b → (TJ9 a).2.1 ≠ (TJ9 b).2.1 := by decide +kernel
theorem tyJ9_ok : ∀ k, k < 0 → parseFieldDescriptor (TJ9 k).2.2.1 = some (tyJ9 k) := by decide +kernel
abbrev cJ9_abs_0f7a4 : ByteArray := prog_10_method_59_code
def yJ9_abs_0f7a4 : MethodName := ⟨RJ9, "abs", "(I)I"⟩
abbrev cJ9_max_7cf53 : ByteArray := prog_10_method_65_code
def yJ9_max_7cf53 : MethodName := ⟨RJ9, "max", "(II)I"⟩
abbrev cJ9_min_7cf53 : ByteArray := prog_10_method_69_code
def yJ9_min_7cf53 : MethodName := ⟨RJ9, "min", "(II)I"⟩
def RJ10 : String := "java/lang/System"
def TJ10 : u_T := fun k => match k with
  | _ => ("", "", "", false)
def tyJ10 : Nat → FieldType := fun k => match k with
  | _ => .int
abbrev wsJ100 : List Cond := u_ws RJ10 TJ10 0
theorem nmJ10 : ∀ a, a < 0 → ∀ b, b < 0 → a ≠ b → (TJ10 a).2.1 ≠ (TJ10 b).2.1 := by decide +kernel
theorem tyJ10_ok : ∀ k, k < 0 → parseFieldDescriptor (TJ10 k).2.2.1 = some (tyJ10 k) := by decide +kernel
def RL : String := "GraveRowsLaw"
abbrev cL_law : ByteArray := code
def yL_law : MethodName := ⟨RL, "law", "([I)Z"⟩
def wsX0_init : List Cond := .code yX0_init cX0_init 1 none :: ([.methodLink RX0 3 objectInit, .instanceMethod objectInit, .code objectInit ⟨#[0xb1]⟩ 1 none, .arrayClass .int, .fieldLink RX0 9 "GraveRows$Borders" "goingOn" "[I", .arrayClass .boolean, .fieldLink RX0 15 "GraveRows$Borders" "isBorder" "[Z"] ++ wsX00)
def wsX3_allGraves : List Cond := .code yX3_allGraves cX3_allGraves 1 (some .int) :: ([.fieldLink RX3 46 "GraveRows$RowSearch" "size" "I"] ++ wsX30)
def wsJ6_bitCount_0f7a4 : List Cond := .code yJ6_bitCount_0f7a4 cJ6_bitCount_0f7a4 1 (some .int) :: ([.constant RJ6 265 (1431655765), .constant RJ6 266 (858993459), .constant RJ6 267 (252645135)])
def wsX3_goingOnAt : List Cond := .code yX3_goingOnAt cX3_goingOnAt 4 (some .int) :: ([.fieldLink RX3 30 "GraveRows$RowSearch" "row" "[I", .fieldLink RX3 21 "GraveRows$RowSearch" "goodsOfSet" "[I", .methodLink RX3 73 yX3_allGraves, .instanceMethod yX3_allGraves, .selects RX3 yX3_allGraves yX3_allGraves, .initialized RX3, .code yX3_allGraves cX3_allGraves 1 (some .int), .fieldLink RX3 46 "GraveRows$RowSearch" "size" "I", .methodLink RX3 87 yJ6_bitCount_0f7a4, .static yJ6_bitCount_0f7a4, .initialized RJ6, .code yJ6_bitCount_0f7a4 cJ6_bitCount_0f7a4 1 (some .int), .constant RJ6 265 (1431655765), .constant RJ6 266 (858993459), .constant RJ6 267 (252645135)] ++ wsX30)
def wsX0_cheapestFree : List Cond := .code yX0_cheapestFree cX0_cheapestFree 3 (some .int) :: ([.fieldLink RX0 25 "GraveRows$Borders" "size" "I", .fieldLink RX0 15 "GraveRows$Borders" "isBorder" "[Z", .fieldLink RX0 9 "GraveRows$Borders" "goingOn" "[I"] ++ wsX00)
def wsX0_choose_r1 : List Cond := [Cond.fieldLink RX0 19 "GraveRows$RowSearch" "size" "I", Cond.fieldLink RX0 25 "GraveRows$Borders" "size" "I", Cond.fieldLink RX0 26 "GraveRows$Borders" "total" "I", Cond.fieldLink RX0 9 "GraveRows$Borders" "goingOn" "[I", Cond.fieldLink RX0 15 "GraveRows$Borders" "isBorder" "[Z", Cond.methodLink RX0 29 yX3_goingOnAt, Cond.instanceMethod yX3_goingOnAt, Cond.selects RX3 yX3_goingOnAt yX3_goingOnAt, Cond.initialized RX3, Cond.code yX3_goingOnAt cX3_goingOnAt 4 (some .int), Cond.fieldLink RX3 30 "GraveRows$RowSearch" "row" "[I", Cond.fieldLink RX3 21 "GraveRows$RowSearch" "goodsOfSet" "[I", Cond.methodLink RX3 73 yX3_allGraves, Cond.instanceMethod yX3_allGraves, Cond.selects RX3 yX3_allGraves yX3_allGraves, Cond.code yX3_allGraves cX3_allGraves 1 (some .int), Cond.fieldLink RX3 46 "GraveRows$RowSearch" "size" "I", Cond.methodLink RX3 87 yJ6_bitCount_0f7a4, Cond.static yJ6_bitCount_0f7a4, Cond.initialized RJ6, Cond.code yJ6_bitCount_0f7a4 cJ6_bitCount_0f7a4 1 (some .int), Cond.constant RJ6 265 (1431655765), Cond.constant RJ6 266 (858993459), Cond.constant RJ6 267 (252645135)]
def wsX0_choose_r2 : List Cond := [Cond.methodLink RX0 33 yX0_cheapestFree, Cond.instanceMethod yX0_cheapestFree, Cond.selects RX0 yX0_cheapestFree yX0_cheapestFree, Cond.initialized RX0, Cond.code yX0_cheapestFree cX0_cheapestFree 3 (some .int)]
def wsX0_choose : List Cond := .code yX0_choose cX0_choose 5 none :: ((wsX0_choose_r1 ++ wsX0_choose_r2) ++ wsX30 ++ wsX00)
def wsX0_beginOf : List Cond := .code yX0_beginOf cX0_beginOf 4 (some .int) :: ([.fieldLink RX0 25 "GraveRows$Borders" "size" "I", .fieldLink RX0 15 "GraveRows$Borders" "isBorder" "[Z"] ++ wsX00)
def wsX1_init : List Cond := .code yX1_init cX1_init 1 none :: ([.methodLink RX1 3 objectInit, .instanceMethod objectInit, .code objectInit ⟨#[0xb1]⟩ 1 none])
def wsX1_become : List Cond := .code yX1_become cX1_become 2 none :: ([.fieldLink RX1 9 "GraveRows$Grave" "kind" "I", .fieldLink RX1 15 "GraveRows$Grave" "x" "I", .fieldLink RX1 18 "GraveRows$Grave" "y" "I", .fieldLink RX1 21 "GraveRows$Grave" "goods" "I", .fieldLink RX1 24 "GraveRows$Grave" "from" "I", .fieldLink RX1 27 "GraveRows$Grave" "to" "I", .fieldLink RX1 30 "GraveRows$Grave" "cuts" "I", .fieldLink RX1 33 "GraveRows$Grave" "marksTold" "I", .fieldLink RX1 36 "GraveRows$Grave" "marksOfMan" "I"] ++ wsX10)
def wsX1_beginAs : List Cond := .code yX1_beginAs cX1_beginAs 4 none :: ([.fieldLink RX1 9 "GraveRows$Grave" "kind" "I", .fieldLink RX1 15 "GraveRows$Grave" "x" "I", .fieldLink RX1 18 "GraveRows$Grave" "y" "I", .fieldLink RX1 21 "GraveRows$Grave" "goods" "I", .fieldLink RX1 24 "GraveRows$Grave" "from" "I", .fieldLink RX1 27 "GraveRows$Grave" "to" "I", .fieldLink RX1 30 "GraveRows$Grave" "cuts" "I", .fieldLink RX1 33 "GraveRows$Grave" "marksTold" "I", .fieldLink RX1 36 "GraveRows$Grave" "marksOfMan" "I"] ++ wsX10)
def wsX1_isOfKind : List Cond := .code yX1_isOfKind cX1_isOfKind 4 (some .boolean) :: ([.fieldLink RX1 9 "GraveRows$Grave" "kind" "I", .fieldLink RX1 39 "GraveRows$Grave" "KIND_ABOVE" "[I"] ++ wsX10)
def wsX1_goodsSurelyLacked : List Cond := .code yX1_goodsSurelyLacked cX1_goodsSurelyLacked 1 (some .int) :: ([.fieldLink RX1 21 "GraveRows$Grave" "goods" "I", .methodLink RX1 43 yX1_isOfKind, .instanceMethod yX1_isOfKind, .selects RX1 yX1_isOfKind yX1_isOfKind, .initialized RX1, .code yX1_isOfKind cX1_isOfKind 4 (some .boolean), .fieldLink RX1 9 "GraveRows$Grave" "kind" "I", .fieldLink RX1 39 "GraveRows$Grave" "KIND_ABOVE" "[I"] ++ wsX10)
def wsX1_isWithin : List Cond := .code yX1_isWithin cX1_isWithin 3 (some .boolean) :: ([.fieldLink RX1 15 "GraveRows$Grave" "x" "I", .methodLink RX1 47 Lib.Math.abs.name, .static Lib.Math.abs.name, .initialized "java/lang/Math", .code Lib.Math.abs.name Lib.Math.abs.code 1 (some .int), .fieldLink RX1 18 "GraveRows$Grave" "y" "I"] ++ wsX10)
def wsX1_setMark : List Cond := .code yX1_setMark cX1_setMark 5 (some .boolean) :: ([.fieldLink RX1 33 "GraveRows$Grave" "marksTold" "I", .fieldLink RX1 36 "GraveRows$Grave" "marksOfMan" "I"] ++ wsX10)
def wsX2_init : List Cond := .code yX2_init cX2_init 2 none :: ([.methodLink RX2 3 objectInit, .instanceMethod objectInit, .code objectInit ⟨#[0xb1]⟩ 1 none, .classLink RX2 9 RX1, .fieldLink RX2 11 "GraveRows$Ground" "graves" "[LGraveRows$Grave;", .arrayClass .int, .fieldLink RX2 17 "GraveRows$Ground" "weightsOfMan" "[I", .fieldLink RX2 21 "GraveRows$Ground" "weightsOfWoman" "[I", .fieldLink RX2 24 "GraveRows$Ground" "waiting" "[I", .fieldLink RX2 27 "GraveRows$Ground" "steps" "[I", .instantiable RX1 9, .initialized RX1, .instanceMethod yX1_init, .code yX1_init cX1_init 1 none, .methodLink RX1 3 objectInit] ++ wsX20 ++ wsX10)
def wsX2_become : List Cond := .code yX2_become cX2_become 3 none :: ([.fieldLink RX2 11 "GraveRows$Ground" "graves" "[LGraveRows$Grave;", .fieldLink RX2 17 "GraveRows$Ground" "weightsOfMan" "[I", .methodLink RX2 35 arraycopyName, .native arraycopyName, .static arraycopyName, .initialized "java/lang/System", .fieldLink RX2 21 "GraveRows$Ground" "weightsOfWoman" "[I", .fieldLink RX2 24 "GraveRows$Ground" "waiting" "[I", .fieldLink RX2 41 "GraveRows$Ground" "size" "I", .fieldLink RX2 45 "GraveRows$Ground" "waits" "I", .methodLink RX2 31 yX1_become, .instanceMethod yX1_become, .selects RX1 yX1_become yX1_become, .initialized RX1, .code yX1_become cX1_become 2 none, .fieldLink RX1 9 "GraveRows$Grave" "kind" "I", .fieldLink RX1 15 "GraveRows$Grave" "x" "I", .fieldLink RX1 18 "GraveRows$Grave" "y" "I", .fieldLink RX1 21 "GraveRows$Grave" "goods" "I", .fieldLink RX1 24 "GraveRows$Grave" "from" "I", .fieldLink RX1 27 "GraveRows$Grave" "to" "I", .fieldLink RX1 30 "GraveRows$Grave" "cuts" "I", .fieldLink RX1 33 "GraveRows$Grave" "marksTold" "I", .fieldLink RX1 36 "GraveRows$Grave" "marksOfMan" "I"] ++ wsX20 ++ wsX10)
def wsX2_holds : List Cond := .code yX2_holds cX2_holds 2 (some .boolean) :: ([.fieldLink RX2 41 "GraveRows$Ground" "size" "I"] ++ wsX20)
def wsX2_open : List Cond := .code yX2_open cX2_open 4 (some .int) :: ([.fieldLink RX2 11 "GraveRows$Ground" "graves" "[LGraveRows$Grave;", .fieldLink RX2 41 "GraveRows$Ground" "size" "I", .methodLink RX2 48 yX1_beginAs, .instanceMethod yX1_beginAs, .selects RX1 yX1_beginAs yX1_beginAs, .initialized RX1, .code yX1_beginAs cX1_beginAs 4 none, .fieldLink RX1 9 "GraveRows$Grave" "kind" "I", .fieldLink RX1 15 "GraveRows$Grave" "x" "I", .fieldLink RX1 18 "GraveRows$Grave" "y" "I", .fieldLink RX1 21 "GraveRows$Grave" "goods" "I", .fieldLink RX1 24 "GraveRows$Grave" "from" "I", .fieldLink RX1 27 "GraveRows$Grave" "to" "I", .fieldLink RX1 30 "GraveRows$Grave" "cuts" "I", .fieldLink RX1 33 "GraveRows$Grave" "marksTold" "I", .fieldLink RX1 36 "GraveRows$Grave" "marksOfMan" "I"] ++ wsX20 ++ wsX10)
def wsX2_closeLast : List Cond := .code yX2_closeLast cX2_closeLast 2 none :: ([.fieldLink RX2 41 "GraveRows$Ground" "size" "I", .fieldLink RX2 11 "GraveRows$Ground" "graves" "[LGraveRows$Grave;", .fieldLink RX2 52 "GraveRows$Grave" "cuts" "I"] ++ wsX20 ++ wsX10)
def wsX2_setCut : List Cond := .code yX2_setCut cX2_setCut 6 (some .boolean) :: ([.fieldLink RX2 11 "GraveRows$Ground" "graves" "[LGraveRows$Grave;", .fieldLink RX2 52 "GraveRows$Grave" "cuts" "I"] ++ wsX20 ++ wsX10)
def wsX2_countCuts : List Cond := .code yX2_countCuts cX2_countCuts 3 (some .int) :: ([.fieldLink RX2 41 "GraveRows$Ground" "size" "I", .fieldLink RX2 11 "GraveRows$Ground" "graves" "[LGraveRows$Grave;", .fieldLink RX2 52 "GraveRows$Grave" "cuts" "I", .methodLink RX2 55 yJ6_bitCount_0f7a4, .static yJ6_bitCount_0f7a4, .initialized RJ6, .code yJ6_bitCount_0f7a4 cJ6_bitCount_0f7a4 1 (some .int), .constant RJ6 265 (1431655765), .constant RJ6 266 (858993459), .constant RJ6 267 (252645135)] ++ wsX20 ++ wsX10)
def wsX5_isIn : List Cond := .code yX5_isIn cX5_isIn 2 (some .boolean) :: ([])
def wsX2_cuttersOf : List Cond := .code yX2_cuttersOf cX2_cuttersOf 4 (some .int) :: ([.fieldLink RX2 41 "GraveRows$Ground" "size" "I", .fieldLink RX2 11 "GraveRows$Ground" "graves" "[LGraveRows$Grave;", .fieldLink RX2 52 "GraveRows$Grave" "cuts" "I", .static yX5_isIn, .initialized RX5, .code yX5_isIn cX5_isIn 2 (some .boolean)] ++ wsX20 ++ wsX10)
def wsX2_reachedFrom : List Cond := .code yX2_reachedFrom cX2_reachedFrom 6 (some .int) :: ([.fieldLink RX2 41 "GraveRows$Ground" "size" "I", .fieldLink RX2 27 "GraveRows$Ground" "steps" "[I", .static yX5_isIn, .initialized RX5, .code yX5_isIn cX5_isIn 2 (some .boolean)] ++ wsX20)
def wsX2_earlierThan : List Cond := .code yX2_earlierThan cX2_earlierThan 3 (some .int) :: ([.fieldLink RX2 41 "GraveRows$Ground" "size" "I", .fieldLink RX2 27 "GraveRows$Ground" "steps" "[I", .fieldLink RX2 11 "GraveRows$Ground" "graves" "[LGraveRows$Grave;", .fieldLink RX2 52 "GraveRows$Grave" "cuts" "I", .methodLink RX2 65 yX2_reachedFrom, .instanceMethod yX2_reachedFrom, .selects RX2 yX2_reachedFrom yX2_reachedFrom, .initialized RX2, .code yX2_reachedFrom cX2_reachedFrom 6 (some .int), .static yX5_isIn, .initialized RX5, .code yX5_isIn cX5_isIn 2 (some .boolean)] ++ wsX20 ++ wsX10)
def wsX2_laterThan : List Cond := .code yX2_laterThan cX2_laterThan 3 (some .int) :: ([.fieldLink RX2 41 "GraveRows$Ground" "size" "I", .fieldLink RX2 27 "GraveRows$Ground" "steps" "[I", .methodLink RX2 68 yX2_cuttersOf, .instanceMethod yX2_cuttersOf, .selects RX2 yX2_cuttersOf yX2_cuttersOf, .initialized RX2, .code yX2_cuttersOf cX2_cuttersOf 4 (some .int), .fieldLink RX2 11 "GraveRows$Ground" "graves" "[LGraveRows$Grave;", .fieldLink RX2 52 "GraveRows$Grave" "cuts" "I", .static yX5_isIn, .initialized RX5, .code yX5_isIn cX5_isIn 2 (some .boolean), .methodLink RX2 65 yX2_reachedFrom, .instanceMethod yX2_reachedFrom, .selects RX2 yX2_reachedFrom yX2_reachedFrom, .code yX2_reachedFrom cX2_reachedFrom 6 (some .int)] ++ wsX20 ++ wsX10)
def wsX2_earliestOf : List Cond := .code yX2_earliestOf cX2_earliestOf 5 (some .int) :: ([.fieldLink RX2 41 "GraveRows$Ground" "size" "I", .fieldLink RX2 11 "GraveRows$Ground" "graves" "[LGraveRows$Grave;", .fieldLink RX2 74 "GraveRows$Grave" "from" "I", .methodLink RX2 77 Lib.Math.max.name, .static Lib.Math.max.name, .initialized "java/lang/Math", .code Lib.Math.max.name Lib.Math.max.code 2 (some .int), .methodLink RX2 71 yX2_earlierThan, .instanceMethod yX2_earlierThan, .selects RX2 yX2_earlierThan yX2_earlierThan, .initialized RX2, .code yX2_earlierThan cX2_earlierThan 3 (some .int), .fieldLink RX2 27 "GraveRows$Ground" "steps" "[I", .fieldLink RX2 52 "GraveRows$Grave" "cuts" "I", .methodLink RX2 65 yX2_reachedFrom, .instanceMethod yX2_reachedFrom, .selects RX2 yX2_reachedFrom yX2_reachedFrom, .code yX2_reachedFrom cX2_reachedFrom 6 (some .int), .static yX5_isIn, .initialized RX5, .code yX5_isIn cX5_isIn 2 (some .boolean)] ++ wsX20 ++ wsX10)
def wsX2_latestOf_r1 : List Cond := [Cond.fieldLink RX2 41 "GraveRows$Ground" "size" "I", Cond.fieldLink RX2 11 "GraveRows$Ground" "graves" "[LGraveRows$Grave;", Cond.fieldLink RX2 86 "GraveRows$Grave" "to" "I", Cond.methodLink RX2 89 Lib.Math.min.name, Cond.static Lib.Math.min.name, Cond.initialized "java/lang/Math", Cond.code Lib.Math.min.name Lib.Math.min.code 2 (some .int), Cond.methodLink RX2 83 yX2_laterThan, Cond.instanceMethod yX2_laterThan, Cond.selects RX2 yX2_laterThan yX2_laterThan, Cond.initialized RX2, Cond.code yX2_laterThan cX2_laterThan 3 (some .int), Cond.fieldLink RX2 27 "GraveRows$Ground" "steps" "[I", Cond.methodLink RX2 68 yX2_cuttersOf, Cond.instanceMethod yX2_cuttersOf, Cond.selects RX2 yX2_cuttersOf yX2_cuttersOf, Cond.code yX2_cuttersOf cX2_cuttersOf 4 (some .int), Cond.fieldLink RX2 52 "GraveRows$Grave" "cuts" "I", Cond.static yX5_isIn, Cond.initialized RX5, Cond.code yX5_isIn cX5_isIn 2 (some .boolean), Cond.methodLink RX2 65 yX2_reachedFrom, Cond.instanceMethod yX2_reachedFrom, Cond.selects RX2 yX2_reachedFrom yX2_reachedFrom]
def wsX2_latestOf_r2 : List Cond := [Cond.code yX2_reachedFrom cX2_reachedFrom 6 (some .int)]
def wsX2_latestOf : List Cond := .code yX2_latestOf cX2_latestOf 5 (some .int) :: ((wsX2_latestOf_r1 ++ wsX2_latestOf_r2) ++ wsX20 ++ wsX10)
def wsX2_leastEarliest_r1 : List Cond := [Cond.fieldLink RX2 41 "GraveRows$Ground" "size" "I", Cond.methodLink RX2 89 Lib.Math.min.name, Cond.static Lib.Math.min.name, Cond.initialized "java/lang/Math", Cond.code Lib.Math.min.name Lib.Math.min.code 2 (some .int), Cond.static yX5_isIn, Cond.initialized RX5, Cond.code yX5_isIn cX5_isIn 2 (some .boolean), Cond.methodLink RX2 92 yX2_earliestOf, Cond.instanceMethod yX2_earliestOf, Cond.selects RX2 yX2_earliestOf yX2_earliestOf, Cond.initialized RX2, Cond.code yX2_earliestOf cX2_earliestOf 5 (some .int), Cond.fieldLink RX2 11 "GraveRows$Ground" "graves" "[LGraveRows$Grave;", Cond.fieldLink RX2 74 "GraveRows$Grave" "from" "I", Cond.methodLink RX2 77 Lib.Math.max.name, Cond.static Lib.Math.max.name, Cond.code Lib.Math.max.name Lib.Math.max.code 2 (some .int), Cond.methodLink RX2 71 yX2_earlierThan, Cond.instanceMethod yX2_earlierThan, Cond.selects RX2 yX2_earlierThan yX2_earlierThan, Cond.code yX2_earlierThan cX2_earlierThan 3 (some .int), Cond.fieldLink RX2 27 "GraveRows$Ground" "steps" "[I", Cond.fieldLink RX2 52 "GraveRows$Grave" "cuts" "I"]
def wsX2_leastEarliest_r2 : List Cond := [Cond.methodLink RX2 65 yX2_reachedFrom, Cond.instanceMethod yX2_reachedFrom, Cond.selects RX2 yX2_reachedFrom yX2_reachedFrom, Cond.code yX2_reachedFrom cX2_reachedFrom 6 (some .int)]
def wsX2_leastEarliest : List Cond := .code yX2_leastEarliest cX2_leastEarliest 4 (some .int) :: ((wsX2_leastEarliest_r1 ++ wsX2_leastEarliest_r2) ++ wsX20 ++ wsX10)
def wsX2_greatestLatest_r1 : List Cond := [Cond.fieldLink RX2 41 "GraveRows$Ground" "size" "I", Cond.methodLink RX2 77 Lib.Math.max.name, Cond.static Lib.Math.max.name, Cond.initialized "java/lang/Math", Cond.code Lib.Math.max.name Lib.Math.max.code 2 (some .int), Cond.static yX5_isIn, Cond.initialized RX5, Cond.code yX5_isIn cX5_isIn 2 (some .boolean), Cond.methodLink RX2 95 yX2_latestOf, Cond.instanceMethod yX2_latestOf, Cond.selects RX2 yX2_latestOf yX2_latestOf, Cond.initialized RX2, Cond.code yX2_latestOf cX2_latestOf 5 (some .int), Cond.fieldLink RX2 11 "GraveRows$Ground" "graves" "[LGraveRows$Grave;", Cond.fieldLink RX2 86 "GraveRows$Grave" "to" "I", Cond.methodLink RX2 89 Lib.Math.min.name, Cond.static Lib.Math.min.name, Cond.code Lib.Math.min.name Lib.Math.min.code 2 (some .int), Cond.methodLink RX2 83 yX2_laterThan, Cond.instanceMethod yX2_laterThan, Cond.selects RX2 yX2_laterThan yX2_laterThan, Cond.code yX2_laterThan cX2_laterThan 3 (some .int), Cond.fieldLink RX2 27 "GraveRows$Ground" "steps" "[I", Cond.methodLink RX2 68 yX2_cuttersOf]
def wsX2_greatestLatest_r2 : List Cond := [Cond.instanceMethod yX2_cuttersOf, Cond.selects RX2 yX2_cuttersOf yX2_cuttersOf, Cond.code yX2_cuttersOf cX2_cuttersOf 4 (some .int), Cond.fieldLink RX2 52 "GraveRows$Grave" "cuts" "I", Cond.methodLink RX2 65 yX2_reachedFrom, Cond.instanceMethod yX2_reachedFrom, Cond.selects RX2 yX2_reachedFrom yX2_reachedFrom, Cond.code yX2_reachedFrom cX2_reachedFrom 6 (some .int)]
def wsX2_greatestLatest : List Cond := .code yX2_greatestLatest cX2_greatestLatest 4 (some .int) :: ((wsX2_greatestLatest_r1 ++ wsX2_greatestLatest_r2) ++ wsX20 ++ wsX10)
def wsX2_havers : List Cond := .code yX2_havers cX2_havers 4 (some .int) :: ([.fieldLink RX2 41 "GraveRows$Ground" "size" "I", .fieldLink RX2 11 "GraveRows$Ground" "graves" "[LGraveRows$Grave;", .fieldLink RX2 98 "GraveRows$Grave" "goods" "I", .static yX5_isIn, .initialized RX5, .code yX5_isIn cX5_isIn 2 (some .boolean)] ++ wsX20 ++ wsX10)
def wsX2_fitsBehind : List Cond := .code yX2_fitsBehind cX2_fitsBehind 5 (some .boolean) :: ([.fieldLink RX2 24 "GraveRows$Ground" "waiting" "[I", .fieldLink RX2 11 "GraveRows$Ground" "graves" "[LGraveRows$Grave;", .fieldLink RX2 52 "GraveRows$Grave" "cuts" "I", .methodLink RX2 101 yX2_holds, .instanceMethod yX2_holds, .selects RX2 yX2_holds yX2_holds, .initialized RX2, .code yX2_holds cX2_holds 2 (some .boolean), .fieldLink RX2 41 "GraveRows$Ground" "size" "I", .static yX5_isIn, .initialized RX5, .code yX5_isIn cX5_isIn 2 (some .boolean)] ++ wsX20 ++ wsX10)
def wsX2_costOfWaiting : List Cond := .code yX2_costOfWaiting cX2_costOfWaiting 7 (some .int) :: ([.fieldLink RX2 41 "GraveRows$Ground" "size" "I", .fieldLink RX2 11 "GraveRows$Ground" "graves" "[LGraveRows$Grave;", .fieldLink RX2 24 "GraveRows$Ground" "waiting" "[I", .fieldLink RX2 98 "GraveRows$Grave" "goods" "I", .methodLink RX2 105 yX1_goodsSurelyLacked, .instanceMethod yX1_goodsSurelyLacked, .selects RX1 yX1_goodsSurelyLacked yX1_goodsSurelyLacked, .initialized RX1, .code yX1_goodsSurelyLacked cX1_goodsSurelyLacked 1 (some .int), .fieldLink RX1 21 "GraveRows$Grave" "goods" "I", .methodLink RX1 43 yX1_isOfKind, .instanceMethod yX1_isOfKind, .selects RX1 yX1_isOfKind yX1_isOfKind, .code yX1_isOfKind cX1_isOfKind 4 (some .boolean), .fieldLink RX1 9 "GraveRows$Grave" "kind" "I", .fieldLink RX1 39 "GraveRows$Grave" "KIND_ABOVE" "[I", .methodLink RX2 55 yJ6_bitCount_0f7a4, .static yJ6_bitCount_0f7a4, .initialized RJ6, .code yJ6_bitCount_0f7a4 cJ6_bitCount_0f7a4 1 (some .int), .constant RJ6 265 (1431655765), .constant RJ6 266 (858993459), .constant RJ6 267 (252645135)] ++ wsX20 ++ wsX10)
def wsX2_neighboursOf : List Cond := .code yX2_neighboursOf cX2_neighboursOf 5 (some .int) :: ([.fieldLink RX2 41 "GraveRows$Ground" "size" "I", .fieldLink RX2 11 "GraveRows$Ground" "graves" "[LGraveRows$Grave;", .methodLink RX2 112 yX1_isWithin, .instanceMethod yX1_isWithin, .selects RX1 yX1_isWithin yX1_isWithin, .initialized RX1, .code yX1_isWithin cX1_isWithin 3 (some .boolean), .fieldLink RX1 15 "GraveRows$Grave" "x" "I", .methodLink RX1 47 Lib.Math.abs.name, .static Lib.Math.abs.name, .initialized "java/lang/Math", .code Lib.Math.abs.name Lib.Math.abs.code 1 (some .int), .fieldLink RX1 18 "GraveRows$Grave" "y" "I"] ++ wsX20 ++ wsX10)
def wsX2_familyOf_r1 : List Cond := [Cond.fieldLink RX2 41 "GraveRows$Ground" "size" "I", Cond.fieldLink RX2 27 "GraveRows$Ground" "steps" "[I", Cond.methodLink RX2 109 yX2_neighboursOf, Cond.instanceMethod yX2_neighboursOf, Cond.selects RX2 yX2_neighboursOf yX2_neighboursOf, Cond.initialized RX2, Cond.code yX2_neighboursOf cX2_neighboursOf 5 (some .int), Cond.fieldLink RX2 11 "GraveRows$Ground" "graves" "[LGraveRows$Grave;", Cond.methodLink RX2 112 yX1_isWithin, Cond.instanceMethod yX1_isWithin, Cond.selects RX1 yX1_isWithin yX1_isWithin, Cond.initialized RX1, Cond.code yX1_isWithin cX1_isWithin 3 (some .boolean), Cond.fieldLink RX1 15 "GraveRows$Grave" "x" "I", Cond.methodLink RX1 47 Lib.Math.abs.name, Cond.static Lib.Math.abs.name, Cond.initialized "java/lang/Math", Cond.code Lib.Math.abs.name Lib.Math.abs.code 1 (some .int), Cond.fieldLink RX1 18 "GraveRows$Grave" "y" "I", Cond.methodLink RX2 65 yX2_reachedFrom, Cond.instanceMethod yX2_reachedFrom, Cond.selects RX2 yX2_reachedFrom yX2_reachedFrom, Cond.code yX2_reachedFrom cX2_reachedFrom 6 (some .int), Cond.static yX5_isIn]
def wsX2_familyOf_r2 : List Cond := [Cond.initialized RX5, Cond.code yX5_isIn cX5_isIn 2 (some .boolean)]
def wsX2_familyOf : List Cond := .code yX2_familyOf cX2_familyOf 5 (some .int) :: ((wsX2_familyOf_r1 ++ wsX2_familyOf_r2) ++ wsX20 ++ wsX10)
def wsX2_sharedGoods : List Cond := .code yX2_sharedGoods cX2_sharedGoods 3 (some .int) :: ([.fieldLink RX2 11 "GraveRows$Ground" "graves" "[LGraveRows$Grave;", .fieldLink RX2 98 "GraveRows$Grave" "goods" "I", .methodLink RX2 55 yJ6_bitCount_0f7a4, .static yJ6_bitCount_0f7a4, .initialized RJ6, .code yJ6_bitCount_0f7a4 cJ6_bitCount_0f7a4 1 (some .int), .constant RJ6 265 (1431655765), .constant RJ6 266 (858993459), .constant RJ6 267 (252645135)] ++ wsX20 ++ wsX10)
def wsX2_joinedGoods : List Cond := .code yX2_joinedGoods cX2_joinedGoods 3 (some .int) :: ([.fieldLink RX2 11 "GraveRows$Ground" "graves" "[LGraveRows$Grave;", .fieldLink RX2 98 "GraveRows$Grave" "goods" "I", .methodLink RX2 77 Lib.Math.max.name, .static Lib.Math.max.name, .initialized "java/lang/Math", .code Lib.Math.max.name Lib.Math.max.code 2 (some .int), .methodLink RX2 55 yJ6_bitCount_0f7a4, .static yJ6_bitCount_0f7a4, .initialized RJ6, .code yJ6_bitCount_0f7a4 cJ6_bitCount_0f7a4 1 (some .int), .constant RJ6 265 (1431655765), .constant RJ6 266 (858993459), .constant RJ6 267 (252645135)] ++ wsX20 ++ wsX10)
def wsX2_mostLike : List Cond := .code yX2_mostLike cX2_mostLike 8 (some .int) :: ([.fieldLink RX2 41 "GraveRows$Ground" "size" "I", .methodLink RX2 116 yX2_sharedGoods, .instanceMethod yX2_sharedGoods, .selects RX2 yX2_sharedGoods yX2_sharedGoods, .initialized RX2, .code yX2_sharedGoods cX2_sharedGoods 3 (some .int), .fieldLink RX2 11 "GraveRows$Ground" "graves" "[LGraveRows$Grave;", .fieldLink RX2 98 "GraveRows$Grave" "goods" "I", .methodLink RX2 55 yJ6_bitCount_0f7a4, .static yJ6_bitCount_0f7a4, .initialized RJ6, .code yJ6_bitCount_0f7a4 cJ6_bitCount_0f7a4 1 (some .int), .constant RJ6 265 (1431655765), .constant RJ6 266 (858993459), .constant RJ6 267 (252645135), .methodLink RX2 119 yX2_joinedGoods, .instanceMethod yX2_joinedGoods, .selects RX2 yX2_joinedGoods yX2_joinedGoods, .code yX2_joinedGoods cX2_joinedGoods 3 (some .int), .methodLink RX2 77 Lib.Math.max.name, .static Lib.Math.max.name, .initialized "java/lang/Math", .code Lib.Math.max.name Lib.Math.max.code 2 (some .int)] ++ wsX20 ++ wsX10)
def wsX2_weightsFor : List Cond := .code yX2_weightsFor cX2_weightsFor 2 (some (.array .int)) :: ([.fieldLink RX2 17 "GraveRows$Ground" "weightsOfMan" "[I", .fieldLink RX2 21 "GraveRows$Ground" "weightsOfWoman" "[I"] ++ wsX20)
def wsX2_productOfMarks : List Cond := .code yX2_productOfMarks cX2_productOfMarks 9 (some .long) :: ([.fieldLink RX2 11 "GraveRows$Ground" "graves" "[LGraveRows$Grave;", .fieldLink RX2 126 "GraveRows$Grave" "marksTold" "I", .fieldLink RX2 129 "GraveRows$Grave" "marksOfMan" "I", .methodLink RX2 122 yX2_weightsFor, .instanceMethod yX2_weightsFor, .selects RX2 yX2_weightsFor yX2_weightsFor, .initialized RX2, .code yX2_weightsFor cX2_weightsFor 2 (some (.array .int)), .fieldLink RX2 17 "GraveRows$Ground" "weightsOfMan" "[I", .fieldLink RX2 21 "GraveRows$Ground" "weightsOfWoman" "[I", .static yX5_isIn, .initialized RX5, .code yX5_isIn cX5_isIn 2 (some .boolean)] ++ wsX20 ++ wsX10)
def wsX2_whose : List Cond := .code yX2_whose cX2_whose 6 (some .int) :: ([.fieldLink RX2 11 "GraveRows$Ground" "graves" "[LGraveRows$Grave;", .methodLink RX2 132 yX1_isOfKind, .instanceMethod yX1_isOfKind, .selects RX1 yX1_isOfKind yX1_isOfKind, .initialized RX1, .code yX1_isOfKind cX1_isOfKind 4 (some .boolean), .fieldLink RX1 9 "GraveRows$Grave" "kind" "I", .fieldLink RX1 39 "GraveRows$Grave" "KIND_ABOVE" "[I", .methodLink RX2 135 yX2_productOfMarks, .instanceMethod yX2_productOfMarks, .selects RX2 yX2_productOfMarks yX2_productOfMarks, .initialized RX2, .code yX2_productOfMarks cX2_productOfMarks 9 (some .long), .fieldLink RX2 126 "GraveRows$Grave" "marksTold" "I", .fieldLink RX2 129 "GraveRows$Grave" "marksOfMan" "I", .methodLink RX2 122 yX2_weightsFor, .instanceMethod yX2_weightsFor, .selects RX2 yX2_weightsFor yX2_weightsFor, .code yX2_weightsFor cX2_weightsFor 2 (some (.array .int)), .fieldLink RX2 17 "GraveRows$Ground" "weightsOfMan" "[I", .fieldLink RX2 21 "GraveRows$Ground" "weightsOfWoman" "[I", .static yX5_isIn, .initialized RX5, .code yX5_isIn cX5_isIn 2 (some .boolean)] ++ wsX20 ++ wsX10)
def wsX3_init : List Cond := .code yX3_init cX3_init 1 none :: ([.methodLink RX3 3 objectInit, .instanceMethod objectInit, .code objectInit ⟨#[0xb1]⟩ 1 none, .arrayClass .int, .fieldLink RX3 9 "GraveRows$RowSearch" "goods" "[I", .fieldLink RX3 15 "GraveRows$RowSearch" "lacked" "[I", .fieldLink RX3 18 "GraveRows$RowSearch" "cuts" "[I", .fieldLink RX3 21 "GraveRows$RowSearch" "goodsOfSet" "[I", .fieldLink RX3 24 "GraveRows$RowSearch" "costBehind" "[I", .fieldLink RX3 27 "GraveRows$RowSearch" "waysBehind" "[I", .fieldLink RX3 30 "GraveRows$RowSearch" "row" "[I"] ++ wsX30)
def wsX3_takeIn : List Cond := .code yX3_takeIn cX3_takeIn 8 (some .boolean) :: ([.fieldLink RX3 46 "GraveRows$RowSearch" "size" "I", .fieldLink RX3 50 "GraveRows$Ground" "size" "I", .methodLink RX3 53 Lib.Math.min.name, .static Lib.Math.min.name, .initialized "java/lang/Math", .code Lib.Math.min.name Lib.Math.min.code 2 (some .int), .fieldLink RX3 59 "GraveRows$Ground" "graves" "[LGraveRows$Grave;", .fieldLink RX3 63 "GraveRows$Grave" "goods" "I", .fieldLink RX3 9 "GraveRows$RowSearch" "goods" "[I", .fieldLink RX3 15 "GraveRows$RowSearch" "lacked" "[I", .fieldLink RX3 18 "GraveRows$RowSearch" "cuts" "[I", .fieldLink RX3 71 "GraveRows$Grave" "cuts" "I", .methodLink RX3 67 yX1_goodsSurelyLacked, .instanceMethod yX1_goodsSurelyLacked, .selects RX1 yX1_goodsSurelyLacked yX1_goodsSurelyLacked, .initialized RX1, .code yX1_goodsSurelyLacked cX1_goodsSurelyLacked 1 (some .int), .fieldLink RX1 21 "GraveRows$Grave" "goods" "I", .methodLink RX1 43 yX1_isOfKind, .instanceMethod yX1_isOfKind, .selects RX1 yX1_isOfKind yX1_isOfKind, .code yX1_isOfKind cX1_isOfKind 4 (some .boolean), .fieldLink RX1 9 "GraveRows$Grave" "kind" "I", .fieldLink RX1 39 "GraveRows$Grave" "KIND_ABOVE" "[I"] ++ wsX30 ++ wsX20 ++ wsX10)
def wsX3_joinGoods : List Cond := .code yX3_joinGoods cX3_joinGoods 4 none :: ([.fieldLink RX3 46 "GraveRows$RowSearch" "size" "I", .fieldLink RX3 21 "GraveRows$RowSearch" "goodsOfSet" "[I", .fieldLink RX3 9 "GraveRows$RowSearch" "goods" "[I"] ++ wsX30)
def wsX3_mayFollow : List Cond := .code yX3_mayFollow cX3_mayFollow 3 (some .boolean) :: ([.fieldLink RX3 18 "GraveRows$RowSearch" "cuts" "[I", .static yX5_isIn, .initialized RX5, .code yX5_isIn cX5_isIn 2 (some .boolean)] ++ wsX30)
def wsX3_costThrough : List Cond := .code yX3_costThrough cX3_costThrough 5 (some .int) :: ([.fieldLink RX3 21 "GraveRows$RowSearch" "goodsOfSet" "[I", .fieldLink RX3 15 "GraveRows$RowSearch" "lacked" "[I", .fieldLink RX3 24 "GraveRows$RowSearch" "costBehind" "[I", .methodLink RX3 73 yX3_allGraves, .instanceMethod yX3_allGraves, .selects RX3 yX3_allGraves yX3_allGraves, .initialized RX3, .code yX3_allGraves cX3_allGraves 1 (some .int), .fieldLink RX3 46 "GraveRows$RowSearch" "size" "I", .methodLink RX3 87 yJ6_bitCount_0f7a4, .static yJ6_bitCount_0f7a4, .initialized RJ6, .code yJ6_bitCount_0f7a4 cJ6_bitCount_0f7a4 1 (some .int), .constant RJ6 265 (1431655765), .constant RJ6 266 (858993459), .constant RJ6 267 (252645135)] ++ wsX30)
def wsX3_weighSets_r1 : List Cond := [Cond.fieldLink RX3 24 "GraveRows$RowSearch" "costBehind" "[I", Cond.fieldLink RX3 27 "GraveRows$RowSearch" "waysBehind" "[I", Cond.constant RX3 76 (1000000), Cond.fieldLink RX3 46 "GraveRows$RowSearch" "size" "I", Cond.methodLink RX3 73 yX3_allGraves, Cond.instanceMethod yX3_allGraves, Cond.selects RX3 yX3_allGraves yX3_allGraves, Cond.initialized RX3, Cond.code yX3_allGraves cX3_allGraves 1 (some .int), Cond.methodLink RX3 77 yX3_mayFollow, Cond.instanceMethod yX3_mayFollow, Cond.selects RX3 yX3_mayFollow yX3_mayFollow, Cond.code yX3_mayFollow cX3_mayFollow 3 (some .boolean), Cond.fieldLink RX3 18 "GraveRows$RowSearch" "cuts" "[I", Cond.static yX5_isIn, Cond.initialized RX5, Cond.code yX5_isIn cX5_isIn 2 (some .boolean), Cond.methodLink RX3 81 yX3_costThrough, Cond.instanceMethod yX3_costThrough, Cond.selects RX3 yX3_costThrough yX3_costThrough, Cond.code yX3_costThrough cX3_costThrough 5 (some .int), Cond.fieldLink RX3 21 "GraveRows$RowSearch" "goodsOfSet" "[I", Cond.fieldLink RX3 15 "GraveRows$RowSearch" "lacked" "[I", Cond.methodLink RX3 87 yJ6_bitCount_0f7a4]
def wsX3_weighSets_r2 : List Cond := [Cond.static yJ6_bitCount_0f7a4, Cond.initialized RJ6, Cond.code yJ6_bitCount_0f7a4 cJ6_bitCount_0f7a4 1 (some .int), Cond.constant RJ6 265 (1431655765), Cond.constant RJ6 266 (858993459), Cond.constant RJ6 267 (252645135)]
def wsX3_weighSets : List Cond := .code yX3_weighSets cX3_weighSets 7 none :: ((wsX3_weighSets_r1 ++ wsX3_weighSets_r2) ++ wsX30)
def wsX3_walkFirstRow_r1 : List Cond := [Cond.fieldLink RX3 46 "GraveRows$RowSearch" "size" "I", Cond.fieldLink RX3 24 "GraveRows$RowSearch" "costBehind" "[I", Cond.fieldLink RX3 30 "GraveRows$RowSearch" "row" "[I", Cond.methodLink RX3 77 yX3_mayFollow, Cond.instanceMethod yX3_mayFollow, Cond.selects RX3 yX3_mayFollow yX3_mayFollow, Cond.initialized RX3, Cond.code yX3_mayFollow cX3_mayFollow 3 (some .boolean), Cond.fieldLink RX3 18 "GraveRows$RowSearch" "cuts" "[I", Cond.static yX5_isIn, Cond.initialized RX5, Cond.code yX5_isIn cX5_isIn 2 (some .boolean), Cond.methodLink RX3 81 yX3_costThrough, Cond.instanceMethod yX3_costThrough, Cond.selects RX3 yX3_costThrough yX3_costThrough, Cond.code yX3_costThrough cX3_costThrough 5 (some .int), Cond.fieldLink RX3 21 "GraveRows$RowSearch" "goodsOfSet" "[I", Cond.fieldLink RX3 15 "GraveRows$RowSearch" "lacked" "[I", Cond.methodLink RX3 73 yX3_allGraves, Cond.instanceMethod yX3_allGraves, Cond.selects RX3 yX3_allGraves yX3_allGraves, Cond.code yX3_allGraves cX3_allGraves 1 (some .int), Cond.methodLink RX3 87 yJ6_bitCount_0f7a4, Cond.static yJ6_bitCount_0f7a4]
def wsX3_walkFirstRow_r2 : List Cond := [Cond.initialized RJ6, Cond.code yJ6_bitCount_0f7a4 cJ6_bitCount_0f7a4 1 (some .int), Cond.constant RJ6 265 (1431655765), Cond.constant RJ6 266 (858993459), Cond.constant RJ6 267 (252645135)]
def wsX3_walkFirstRow : List Cond := .code yX3_walkFirstRow cX3_walkFirstRow 4 none :: ((wsX3_walkFirstRow_r1 ++ wsX3_walkFirstRow_r2) ++ wsX30)
def wsX3_solve_r1 : List Cond := [Cond.methodLink RX3 33 yX3_takeIn, Cond.instanceMethod yX3_takeIn, Cond.selects RX3 yX3_takeIn yX3_takeIn, Cond.initialized RX3, Cond.code yX3_takeIn cX3_takeIn 8 (some .boolean), Cond.fieldLink RX3 46 "GraveRows$RowSearch" "size" "I", Cond.fieldLink RX3 50 "GraveRows$Ground" "size" "I", Cond.methodLink RX3 53 Lib.Math.min.name, Cond.static Lib.Math.min.name, Cond.initialized "java/lang/Math", Cond.code Lib.Math.min.name Lib.Math.min.code 2 (some .int), Cond.fieldLink RX3 59 "GraveRows$Ground" "graves" "[LGraveRows$Grave;", Cond.fieldLink RX3 63 "GraveRows$Grave" "goods" "I", Cond.fieldLink RX3 9 "GraveRows$RowSearch" "goods" "[I", Cond.fieldLink RX3 15 "GraveRows$RowSearch" "lacked" "[I", Cond.fieldLink RX3 18 "GraveRows$RowSearch" "cuts" "[I", Cond.fieldLink RX3 71 "GraveRows$Grave" "cuts" "I", Cond.methodLink RX3 67 yX1_goodsSurelyLacked, Cond.instanceMethod yX1_goodsSurelyLacked, Cond.selects RX1 yX1_goodsSurelyLacked yX1_goodsSurelyLacked, Cond.initialized RX1, Cond.code yX1_goodsSurelyLacked cX1_goodsSurelyLacked 1 (some .int), Cond.fieldLink RX1 21 "GraveRows$Grave" "goods" "I", Cond.methodLink RX1 43 yX1_isOfKind]
def wsX3_solve_r2 : List Cond := [Cond.instanceMethod yX1_isOfKind, Cond.selects RX1 yX1_isOfKind yX1_isOfKind, Cond.code yX1_isOfKind cX1_isOfKind 4 (some .boolean), Cond.fieldLink RX1 9 "GraveRows$Grave" "kind" "I", Cond.fieldLink RX1 39 "GraveRows$Grave" "KIND_ABOVE" "[I", Cond.methodLink RX3 37 yX3_joinGoods, Cond.instanceMethod yX3_joinGoods, Cond.selects RX3 yX3_joinGoods yX3_joinGoods, Cond.code yX3_joinGoods cX3_joinGoods 4 none, Cond.fieldLink RX3 21 "GraveRows$RowSearch" "goodsOfSet" "[I", Cond.methodLink RX3 40 yX3_weighSets, Cond.instanceMethod yX3_weighSets, Cond.selects RX3 yX3_weighSets yX3_weighSets, Cond.code yX3_weighSets cX3_weighSets 7 none, Cond.fieldLink RX3 24 "GraveRows$RowSearch" "costBehind" "[I", Cond.fieldLink RX3 27 "GraveRows$RowSearch" "waysBehind" "[I", Cond.constant RX3 76 (1000000), Cond.methodLink RX3 73 yX3_allGraves, Cond.instanceMethod yX3_allGraves, Cond.selects RX3 yX3_allGraves yX3_allGraves, Cond.code yX3_allGraves cX3_allGraves 1 (some .int), Cond.methodLink RX3 77 yX3_mayFollow, Cond.instanceMethod yX3_mayFollow, Cond.selects RX3 yX3_mayFollow yX3_mayFollow]
def wsX3_solve_r3 : List Cond := [Cond.code yX3_mayFollow cX3_mayFollow 3 (some .boolean), Cond.static yX5_isIn, Cond.initialized RX5, Cond.code yX5_isIn cX5_isIn 2 (some .boolean), Cond.methodLink RX3 81 yX3_costThrough, Cond.instanceMethod yX3_costThrough, Cond.selects RX3 yX3_costThrough yX3_costThrough, Cond.code yX3_costThrough cX3_costThrough 5 (some .int), Cond.methodLink RX3 87 yJ6_bitCount_0f7a4, Cond.static yJ6_bitCount_0f7a4, Cond.initialized RJ6, Cond.code yJ6_bitCount_0f7a4 cJ6_bitCount_0f7a4 1 (some .int), Cond.constant RJ6 265 (1431655765), Cond.constant RJ6 266 (858993459), Cond.constant RJ6 267 (252645135), Cond.methodLink RX3 43 yX3_walkFirstRow, Cond.instanceMethod yX3_walkFirstRow, Cond.selects RX3 yX3_walkFirstRow yX3_walkFirstRow, Cond.code yX3_walkFirstRow cX3_walkFirstRow 4 none, Cond.fieldLink RX3 30 "GraveRows$RowSearch" "row" "[I"]
def wsX3_solve : List Cond := .code yX3_solve cX3_solve 3 none :: ((wsX3_solve_r1 ++ (wsX3_solve_r2 ++ wsX3_solve_r3)) ++ wsX30 ++ wsX20 ++ wsX10)
def wsX3_leastCost : List Cond := .code yX3_leastCost cX3_leastCost 1 (some .int) :: ([.fieldLink RX3 24 "GraveRows$RowSearch" "costBehind" "[I"] ++ wsX30)
def wsX3_leastWays : List Cond := .code yX3_leastWays cX3_leastWays 1 (some .int) :: ([.fieldLink RX3 27 "GraveRows$RowSearch" "waysBehind" "[I"] ++ wsX30)
def wsX3_firstPlaceOf : List Cond := .code yX3_firstPlaceOf cX3_firstPlaceOf 3 (some .int) :: ([.fieldLink RX3 46 "GraveRows$RowSearch" "size" "I", .fieldLink RX3 9 "GraveRows$RowSearch" "goods" "[I", .fieldLink RX3 30 "GraveRows$RowSearch" "row" "[I", .static yX5_isIn, .initialized RX5, .code yX5_isIn cX5_isIn 2 (some .boolean)] ++ wsX30)
def wsX3_lastPlaceOf : List Cond := .code yX3_lastPlaceOf cX3_lastPlaceOf 3 (some .int) :: ([.fieldLink RX3 46 "GraveRows$RowSearch" "size" "I", .fieldLink RX3 9 "GraveRows$RowSearch" "goods" "[I", .fieldLink RX3 30 "GraveRows$RowSearch" "row" "[I", .static yX5_isIn, .initialized RX5, .code yX5_isIn cX5_isIn 2 (some .boolean)] ++ wsX30)
def wsX3_holesOf : List Cond := .code yX3_holesOf cX3_holesOf 5 (some .int) :: ([.fieldLink RX3 15 "GraveRows$RowSearch" "lacked" "[I", .fieldLink RX3 30 "GraveRows$RowSearch" "row" "[I", .methodLink RX3 93 yX3_lastPlaceOf, .instanceMethod yX3_lastPlaceOf, .selects RX3 yX3_lastPlaceOf yX3_lastPlaceOf, .initialized RX3, .code yX3_lastPlaceOf cX3_lastPlaceOf 3 (some .int), .fieldLink RX3 46 "GraveRows$RowSearch" "size" "I", .fieldLink RX3 9 "GraveRows$RowSearch" "goods" "[I", .static yX5_isIn, .initialized RX5, .code yX5_isIn cX5_isIn 2 (some .boolean), .methodLink RX3 96 yX3_firstPlaceOf, .instanceMethod yX3_firstPlaceOf, .selects RX3 yX3_firstPlaceOf yX3_firstPlaceOf, .code yX3_firstPlaceOf cX3_firstPlaceOf 3 (some .int)] ++ wsX30)
def wsX4_init : List Cond := .code yX4_init cX4_init 1 none :: ([.methodLink RX4 3 objectInit, .instanceMethod objectInit, .code objectInit ⟨#[0xb1]⟩ 1 none, .arrayClass .int, .fieldLink RX4 9 "GraveRows$Sheet" "numbers" "[I"] ++ wsX40)
def wsX4_isMissing : List Cond := .code yX4_isMissing cX4_isMissing 1 (some .boolean) :: ([.fieldLink RX4 15 "GraveRows$Sheet" "bits" "I"] ++ wsX40)
def wsX4_become : List Cond := .code yX4_become cX4_become 4 none :: ([.fieldLink RX4 15 "GraveRows$Sheet" "bits" "I", .fieldLink RX4 19 "GraveRows$Sheet" "length" "I", .fieldLink RX4 9 "GraveRows$Sheet" "numbers" "[I"] ++ wsX40)
def wsX4_write : List Cond := .code yX4_write cX4_write 3 none :: ([.fieldLink RX4 9 "GraveRows$Sheet" "numbers" "[I", .fieldLink RX4 15 "GraveRows$Sheet" "bits" "I"] ++ wsX40)
def wsX4_hasStretch : List Cond := .code yX4_hasStretch cX4_hasStretch 3 (some .boolean) :: ([.fieldLink RX4 19 "GraveRows$Sheet" "length" "I"] ++ wsX40)
def wsX4_goodsReadInto : List Cond := .code yX4_goodsReadInto cX4_goodsReadInto 4 (some .int) :: ([.fieldLink RX4 19 "GraveRows$Sheet" "length" "I", .fieldLink RX4 9 "GraveRows$Sheet" "numbers" "[I"] ++ wsX40)
def wsX5_init_r1 : List Cond := [Cond.methodLink RX5 3 objectInit, Cond.instanceMethod objectInit, Cond.code objectInit ⟨#[0xb1]⟩ 1 none, Cond.classLink RX5 9 RX2, Cond.instantiable RX2 7, Cond.initialized RX2, Cond.fieldLink RX5 12 "GraveRows" "ground" "LGraveRows$Ground;", Cond.fieldLink RX5 16 "GraveRows" "kept" "LGraveRows$Ground;", Cond.classLink RX5 19 RX4, Cond.fieldLink RX5 21 "GraveRows" "sheets" "[LGraveRows$Sheet;", Cond.instantiable RX4 3, Cond.initialized RX4, Cond.classLink RX5 26 RX3, Cond.instantiable RX3 8, Cond.initialized RX3, Cond.fieldLink RX5 29 "GraveRows" "search" "LGraveRows$RowSearch;", Cond.classLink RX5 33 RX0, Cond.instantiable RX0 4, Cond.initialized RX0, Cond.fieldLink RX5 36 "GraveRows" "borders" "LGraveRows$Borders;", Cond.methodLink RX5 11 yX2_init, Cond.instanceMethod yX2_init, Cond.code yX2_init cX2_init 2 none, Cond.methodLink RX2 3 objectInit]
def wsX5_init_r2 : List Cond := [Cond.classLink RX2 9 RX1, Cond.fieldLink RX2 11 "GraveRows$Ground" "graves" "[LGraveRows$Grave;", Cond.arrayClass .int, Cond.fieldLink RX2 17 "GraveRows$Ground" "weightsOfMan" "[I", Cond.fieldLink RX2 21 "GraveRows$Ground" "weightsOfWoman" "[I", Cond.fieldLink RX2 24 "GraveRows$Ground" "waiting" "[I", Cond.fieldLink RX2 27 "GraveRows$Ground" "steps" "[I", Cond.instantiable RX1 9, Cond.initialized RX1, Cond.instanceMethod yX1_init, Cond.code yX1_init cX1_init 1 none, Cond.methodLink RX1 3 objectInit, Cond.instanceMethod yX4_init, Cond.code yX4_init cX4_init 1 none, Cond.methodLink RX4 3 objectInit, Cond.fieldLink RX4 9 "GraveRows$Sheet" "numbers" "[I", Cond.instanceMethod yX3_init, Cond.code yX3_init cX3_init 1 none, Cond.methodLink RX3 3 objectInit, Cond.fieldLink RX3 9 "GraveRows$RowSearch" "goods" "[I", Cond.fieldLink RX3 15 "GraveRows$RowSearch" "lacked" "[I", Cond.fieldLink RX3 18 "GraveRows$RowSearch" "cuts" "[I", Cond.fieldLink RX3 21 "GraveRows$RowSearch" "goodsOfSet" "[I", Cond.fieldLink RX3 24 "GraveRows$RowSearch" "costBehind" "[I"]
def wsX5_init_r3 : List Cond := [Cond.fieldLink RX3 27 "GraveRows$RowSearch" "waysBehind" "[I", Cond.fieldLink RX3 30 "GraveRows$RowSearch" "row" "[I", Cond.instanceMethod yX0_init, Cond.code yX0_init cX0_init 1 none, Cond.methodLink RX0 3 objectInit, Cond.fieldLink RX0 9 "GraveRows$Borders" "goingOn" "[I", Cond.arrayClass .boolean, Cond.fieldLink RX0 15 "GraveRows$Borders" "isBorder" "[Z"]
def wsX5_init : List Cond := .code yX5_init cX5_init 2 none :: ((wsX5_init_r1 ++ (wsX5_init_r2 ++ wsX5_init_r3)) ++ wsX20 ++ wsX50 ++ wsX40 ++ wsX30 ++ wsX00 ++ wsX10)
def wsX5_isKind : List Cond := .code yX5_isKind cX5_isKind 1 (some .boolean) :: ([])
def wsX5_isDistance : List Cond := .code yX5_isDistance cX5_isDistance 1 (some .boolean) :: ([])
def wsX5_finding : List Cond := .code yX5_finding cX5_finding 2 (some .int) :: ([.fieldLink RX5 282 "GraveRows" "findings" "I"] ++ wsX50)
def wsX5_grave_r1 : List Cond := [Cond.constant RX5 47 (-100001), Cond.fieldLink RX5 12 "GraveRows" "ground" "LGraveRows$Ground;", Cond.fieldLink RX5 52 "GraveRows$Ground" "size" "I", Cond.constant RX5 56 (-100005), Cond.methodLink RX5 40 yX5_isKind, Cond.static yX5_isKind, Cond.initialized RX5, Cond.code yX5_isKind cX5_isKind 1 (some .boolean), Cond.methodLink RX5 44 yX5_isDistance, Cond.static yX5_isDistance, Cond.code yX5_isDistance cX5_isDistance 1 (some .boolean), Cond.methodLink RX5 48 yX5_finding, Cond.instanceMethod yX5_finding, Cond.selects RX5 yX5_finding yX5_finding, Cond.code yX5_finding cX5_finding 2 (some .int), Cond.fieldLink RX5 282 "GraveRows" "findings" "I", Cond.methodLink RX5 57 yX2_open, Cond.instanceMethod yX2_open, Cond.selects RX2 yX2_open yX2_open, Cond.initialized RX2, Cond.code yX2_open cX2_open 4 (some .int), Cond.fieldLink RX2 11 "GraveRows$Ground" "graves" "[LGraveRows$Grave;", Cond.fieldLink RX2 41 "GraveRows$Ground" "size" "I", Cond.methodLink RX2 48 yX1_beginAs]
def wsX5_grave_r2 : List Cond := [Cond.instanceMethod yX1_beginAs, Cond.selects RX1 yX1_beginAs yX1_beginAs, Cond.initialized RX1, Cond.code yX1_beginAs cX1_beginAs 4 none, Cond.fieldLink RX1 9 "GraveRows$Grave" "kind" "I", Cond.fieldLink RX1 15 "GraveRows$Grave" "x" "I", Cond.fieldLink RX1 18 "GraveRows$Grave" "y" "I", Cond.fieldLink RX1 21 "GraveRows$Grave" "goods" "I", Cond.fieldLink RX1 24 "GraveRows$Grave" "from" "I", Cond.fieldLink RX1 27 "GraveRows$Grave" "to" "I", Cond.fieldLink RX1 30 "GraveRows$Grave" "cuts" "I", Cond.fieldLink RX1 33 "GraveRows$Grave" "marksTold" "I", Cond.fieldLink RX1 36 "GraveRows$Grave" "marksOfMan" "I"]
def wsX5_grave : List Cond := .code yX5_grave cX5_grave 4 (some .int) :: ((wsX5_grave_r1 ++ wsX5_grave_r2) ++ wsX50 ++ wsX20 ++ wsX10)
def wsX5_as_r1 : List Cond := [Cond.fieldLink RX5 12 "GraveRows" "ground" "LGraveRows$Ground;", Cond.constant RX5 47 (-100001), Cond.fieldLink RX5 64 "GraveRows$Ground" "graves" "[LGraveRows$Grave;", Cond.constant RX5 73 (-100004), Cond.methodLink RX5 61 yX2_holds, Cond.instanceMethod yX2_holds, Cond.selects RX2 yX2_holds yX2_holds, Cond.initialized RX2, Cond.code yX2_holds cX2_holds 2 (some .boolean), Cond.fieldLink RX2 41 "GraveRows$Ground" "size" "I", Cond.methodLink RX5 40 yX5_isKind, Cond.static yX5_isKind, Cond.initialized RX5, Cond.code yX5_isKind cX5_isKind 1 (some .boolean), Cond.methodLink RX5 48 yX5_finding, Cond.instanceMethod yX5_finding, Cond.selects RX5 yX5_finding yX5_finding, Cond.code yX5_finding cX5_finding 2 (some .int), Cond.fieldLink RX5 282 "GraveRows" "findings" "I", Cond.methodLink RX5 68 yX1_isOfKind, Cond.instanceMethod yX1_isOfKind, Cond.selects RX1 yX1_isOfKind yX1_isOfKind, Cond.initialized RX1, Cond.code yX1_isOfKind cX1_isOfKind 4 (some .boolean)]
def wsX5_as_r2 : List Cond := [Cond.fieldLink RX1 9 "GraveRows$Grave" "kind" "I", Cond.fieldLink RX1 39 "GraveRows$Grave" "KIND_ABOVE" "[I"]
def wsX5_as : List Cond := .code yX5_as cX5_as 3 (some .int) :: ((wsX5_as_r1 ++ wsX5_as_r2) ++ wsX50 ++ wsX20 ++ wsX10)
def wsX5_goods : List Cond := .code yX5_goods cX5_goods 4 (some .int) :: ([.fieldLink RX5 12 "GraveRows" "ground" "LGraveRows$Ground;", .constant RX5 47 (-100001), .fieldLink RX5 64 "GraveRows$Ground" "graves" "[LGraveRows$Grave;", .fieldLink RX5 74 "GraveRows$Grave" "goods" "I", .methodLink RX5 61 yX2_holds, .instanceMethod yX2_holds, .selects RX2 yX2_holds yX2_holds, .initialized RX2, .code yX2_holds cX2_holds 2 (some .boolean), .fieldLink RX2 41 "GraveRows$Ground" "size" "I", .methodLink RX5 48 yX5_finding, .instanceMethod yX5_finding, .selects RX5 yX5_finding yX5_finding, .initialized RX5, .code yX5_finding cX5_finding 2 (some .int), .fieldLink RX5 282 "GraveRows" "findings" "I"] ++ wsX50 ++ wsX20 ++ wsX10)
def wsX5_of_r1 : List Cond := [Cond.fieldLink RX5 12 "GraveRows" "ground" "LGraveRows$Ground;", Cond.constant RX5 47 (-100001), Cond.fieldLink RX5 64 "GraveRows$Ground" "graves" "[LGraveRows$Grave;", Cond.fieldLink RX5 77 "GraveRows$Grave" "kind" "I", Cond.fieldLink RX5 80 "GraveRows$Grave" "x" "I", Cond.fieldLink RX5 83 "GraveRows$Grave" "y" "I", Cond.fieldLink RX5 74 "GraveRows$Grave" "goods" "I", Cond.fieldLink RX5 86 "GraveRows$Grave" "from" "I", Cond.fieldLink RX5 89 "GraveRows$Grave" "to" "I", Cond.fieldLink RX5 92 "GraveRows$Grave" "cuts" "I", Cond.methodLink RX5 61 yX2_holds, Cond.instanceMethod yX2_holds, Cond.selects RX2 yX2_holds yX2_holds, Cond.initialized RX2, Cond.code yX2_holds cX2_holds 2 (some .boolean), Cond.fieldLink RX2 41 "GraveRows$Ground" "size" "I", Cond.methodLink RX5 48 yX5_finding, Cond.instanceMethod yX5_finding, Cond.selects RX5 yX5_finding yX5_finding, Cond.initialized RX5, Cond.code yX5_finding cX5_finding 2 (some .int), Cond.fieldLink RX5 282 "GraveRows" "findings" "I", Cond.methodLink RX5 95 yJ6_bitCount_0f7a4, Cond.static yJ6_bitCount_0f7a4]
def wsX5_of_r2 : List Cond := [Cond.initialized RJ6, Cond.code yJ6_bitCount_0f7a4 cJ6_bitCount_0f7a4 1 (some .int), Cond.constant RJ6 265 (1431655765), Cond.constant RJ6 266 (858993459), Cond.constant RJ6 267 (252645135), Cond.methodLink RX5 100 yX2_cuttersOf, Cond.instanceMethod yX2_cuttersOf, Cond.selects RX2 yX2_cuttersOf yX2_cuttersOf, Cond.code yX2_cuttersOf cX2_cuttersOf 4 (some .int), Cond.fieldLink RX2 11 "GraveRows$Ground" "graves" "[LGraveRows$Grave;", Cond.fieldLink RX2 52 "GraveRows$Grave" "cuts" "I", Cond.static yX5_isIn, Cond.code yX5_isIn cX5_isIn 2 (some .boolean)]
def wsX5_of : List Cond := .code yX5_of cX5_of 4 (some .int) :: ((wsX5_of_r1 ++ wsX5_of_r2) ++ wsX50 ++ wsX20 ++ wsX10)
def wsX5_isYear : List Cond := .code yX5_isYear cX5_isYear 1 (some .boolean) :: ([])
def wsX5_span : List Cond := .code yX5_span cX5_span 4 (some .int) :: ([.fieldLink RX5 12 "GraveRows" "ground" "LGraveRows$Ground;", .constant RX5 47 (-100001), .constant RX5 106 (-100003), .fieldLink RX5 64 "GraveRows$Ground" "graves" "[LGraveRows$Grave;", .fieldLink RX5 86 "GraveRows$Grave" "from" "I", .fieldLink RX5 89 "GraveRows$Grave" "to" "I", .methodLink RX5 61 yX2_holds, .instanceMethod yX2_holds, .selects RX2 yX2_holds yX2_holds, .initialized RX2, .code yX2_holds cX2_holds 2 (some .boolean), .fieldLink RX2 41 "GraveRows$Ground" "size" "I", .methodLink RX5 103 yX5_isYear, .static yX5_isYear, .initialized RX5, .code yX5_isYear cX5_isYear 1 (some .boolean), .methodLink RX5 48 yX5_finding, .instanceMethod yX5_finding, .selects RX5 yX5_finding yX5_finding, .code yX5_finding cX5_finding 2 (some .int), .fieldLink RX5 282 "GraveRows" "findings" "I"] ++ wsX50 ++ wsX20 ++ wsX10)
def wsX5_coin_r1 : List Cond := [Cond.fieldLink RX5 12 "GraveRows" "ground" "LGraveRows$Ground;", Cond.constant RX5 47 (-100001), Cond.fieldLink RX5 64 "GraveRows$Ground" "graves" "[LGraveRows$Grave;", Cond.constant RX5 73 (-100004), Cond.fieldLink RX5 89 "GraveRows$Grave" "to" "I", Cond.constant RX5 106 (-100003), Cond.fieldLink RX5 86 "GraveRows$Grave" "from" "I", Cond.methodLink RX5 107 Lib.Math.max.name, Cond.static Lib.Math.max.name, Cond.initialized "java/lang/Math", Cond.code Lib.Math.max.name Lib.Math.max.code 2 (some .int), Cond.methodLink RX5 61 yX2_holds, Cond.instanceMethod yX2_holds, Cond.selects RX2 yX2_holds yX2_holds, Cond.initialized RX2, Cond.code yX2_holds cX2_holds 2 (some .boolean), Cond.fieldLink RX2 41 "GraveRows$Ground" "size" "I", Cond.methodLink RX5 103 yX5_isYear, Cond.static yX5_isYear, Cond.initialized RX5, Cond.code yX5_isYear cX5_isYear 1 (some .boolean), Cond.methodLink RX5 48 yX5_finding, Cond.instanceMethod yX5_finding, Cond.selects RX5 yX5_finding yX5_finding]
def wsX5_coin_r2 : List Cond := [Cond.code yX5_finding cX5_finding 2 (some .int), Cond.fieldLink RX5 282 "GraveRows" "findings" "I", Cond.methodLink RX5 68 yX1_isOfKind, Cond.instanceMethod yX1_isOfKind, Cond.selects RX1 yX1_isOfKind yX1_isOfKind, Cond.initialized RX1, Cond.code yX1_isOfKind cX1_isOfKind 4 (some .boolean), Cond.fieldLink RX1 9 "GraveRows$Grave" "kind" "I", Cond.fieldLink RX1 39 "GraveRows$Grave" "KIND_ABOVE" "[I"]
def wsX5_coin : List Cond := .code yX5_coin cX5_coin 4 (some .int) :: ((wsX5_coin_r1 ++ wsX5_coin_r2) ++ wsX50 ++ wsX20 ++ wsX10)
def wsX5_cut_r1 : List Cond := [Cond.fieldLink RX5 12 "GraveRows" "ground" "LGraveRows$Ground;", Cond.constant RX5 47 (-100001), Cond.constant RX5 106 (-100003), Cond.constant RX5 120 (-100007), Cond.methodLink RX5 61 yX2_holds, Cond.instanceMethod yX2_holds, Cond.selects RX2 yX2_holds yX2_holds, Cond.initialized RX2, Cond.code yX2_holds cX2_holds 2 (some .boolean), Cond.fieldLink RX2 41 "GraveRows$Ground" "size" "I", Cond.methodLink RX5 48 yX5_finding, Cond.instanceMethod yX5_finding, Cond.selects RX5 yX5_finding yX5_finding, Cond.initialized RX5, Cond.code yX5_finding cX5_finding 2 (some .int), Cond.fieldLink RX5 282 "GraveRows" "findings" "I", Cond.methodLink RX5 113 yX2_earlierThan, Cond.instanceMethod yX2_earlierThan, Cond.selects RX2 yX2_earlierThan yX2_earlierThan, Cond.code yX2_earlierThan cX2_earlierThan 3 (some .int), Cond.fieldLink RX2 27 "GraveRows$Ground" "steps" "[I", Cond.fieldLink RX2 11 "GraveRows$Ground" "graves" "[LGraveRows$Grave;", Cond.fieldLink RX2 52 "GraveRows$Grave" "cuts" "I", Cond.methodLink RX2 65 yX2_reachedFrom]
def wsX5_cut_r2 : List Cond := [Cond.instanceMethod yX2_reachedFrom, Cond.selects RX2 yX2_reachedFrom yX2_reachedFrom, Cond.code yX2_reachedFrom cX2_reachedFrom 6 (some .int), Cond.static yX5_isIn, Cond.code yX5_isIn cX5_isIn 2 (some .boolean), Cond.methodLink RX5 116 yX5_isIn, Cond.methodLink RX5 121 yX2_setCut, Cond.instanceMethod yX2_setCut, Cond.selects RX2 yX2_setCut yX2_setCut, Cond.code yX2_setCut cX2_setCut 6 (some .boolean)]
def wsX5_cut : List Cond := .code yX5_cut cX5_cut 4 (some .int) :: ((wsX5_cut_r1 ++ wsX5_cut_r2) ++ wsX50 ++ wsX20 ++ wsX10)
def wsX5_later_r1 : List Cond := [Cond.fieldLink RX5 12 "GraveRows" "ground" "LGraveRows$Ground;", Cond.constant RX5 47 (-100001), Cond.methodLink RX5 61 yX2_holds, Cond.instanceMethod yX2_holds, Cond.selects RX2 yX2_holds yX2_holds, Cond.initialized RX2, Cond.code yX2_holds cX2_holds 2 (some .boolean), Cond.fieldLink RX2 41 "GraveRows$Ground" "size" "I", Cond.methodLink RX5 48 yX5_finding, Cond.instanceMethod yX5_finding, Cond.selects RX5 yX5_finding yX5_finding, Cond.initialized RX5, Cond.code yX5_finding cX5_finding 2 (some .int), Cond.fieldLink RX5 282 "GraveRows" "findings" "I", Cond.methodLink RX5 113 yX2_earlierThan, Cond.instanceMethod yX2_earlierThan, Cond.selects RX2 yX2_earlierThan yX2_earlierThan, Cond.code yX2_earlierThan cX2_earlierThan 3 (some .int), Cond.fieldLink RX2 27 "GraveRows$Ground" "steps" "[I", Cond.fieldLink RX2 11 "GraveRows$Ground" "graves" "[LGraveRows$Grave;", Cond.fieldLink RX2 52 "GraveRows$Grave" "cuts" "I", Cond.methodLink RX2 65 yX2_reachedFrom, Cond.instanceMethod yX2_reachedFrom, Cond.selects RX2 yX2_reachedFrom yX2_reachedFrom]
def wsX5_later_r2 : List Cond := [Cond.code yX2_reachedFrom cX2_reachedFrom 6 (some .int), Cond.static yX5_isIn, Cond.code yX5_isIn cX5_isIn 2 (some .boolean), Cond.methodLink RX5 116 yX5_isIn]
def wsX5_later : List Cond := .code yX5_later cX5_later 3 (some .int) :: ((wsX5_later_r1 ++ wsX5_later_r2) ++ wsX50 ++ wsX20 ++ wsX10)
def wsX5_fill : List Cond := .code yX5_fill cX5_fill 1 (some .int) :: ([.fieldLink RX5 12 "GraveRows" "ground" "LGraveRows$Ground;", .fieldLink RX5 52 "GraveRows$Ground" "size" "I", .constant RX5 125 (-100006), .methodLink RX5 48 yX5_finding, .instanceMethod yX5_finding, .selects RX5 yX5_finding yX5_finding, .initialized RX5, .code yX5_finding cX5_finding 2 (some .int), .fieldLink RX5 282 "GraveRows" "findings" "I", .methodLink RX5 126 yX2_closeLast, .instanceMethod yX2_closeLast, .selects RX2 yX2_closeLast yX2_closeLast, .initialized RX2, .code yX2_closeLast cX2_closeLast 2 none, .fieldLink RX2 41 "GraveRows$Ground" "size" "I", .fieldLink RX2 11 "GraveRows$Ground" "graves" "[LGraveRows$Grave;", .fieldLink RX2 52 "GraveRows$Grave" "cuts" "I"] ++ wsX50 ++ wsX20 ++ wsX10)
def wsX5_isSheet : List Cond := .code yX5_isSheet cX5_isSheet 1 (some .boolean) :: ([])
def wsX5_isWidth : List Cond := .code yX5_isWidth cX5_isWidth 1 (some .boolean) :: ([])
def wsX5_sheet : List Cond := .code yX5_sheet cX5_sheet 4 (some .int) :: ([.constant RX5 47 (-100001), .constant RX5 106 (-100003), .fieldLink RX5 21 "GraveRows" "sheets" "[LGraveRows$Sheet;", .fieldLink RX5 139 "GraveRows$Sheet" "length" "I", .methodLink RX5 129 yX5_isSheet, .static yX5_isSheet, .initialized RX5, .code yX5_isSheet cX5_isSheet 1 (some .boolean), .methodLink RX5 132 yX5_isWidth, .static yX5_isWidth, .code yX5_isWidth cX5_isWidth 1 (some .boolean), .methodLink RX5 48 yX5_finding, .instanceMethod yX5_finding, .selects RX5 yX5_finding yX5_finding, .code yX5_finding cX5_finding 2 (some .int), .fieldLink RX5 282 "GraveRows" "findings" "I", .methodLink RX5 135 yX4_become, .instanceMethod yX4_become, .selects RX4 yX4_become yX4_become, .initialized RX4, .code yX4_become cX4_become 4 none, .fieldLink RX4 15 "GraveRows$Sheet" "bits" "I", .fieldLink RX4 19 "GraveRows$Sheet" "length" "I", .fieldLink RX4 9 "GraveRows$Sheet" "numbers" "[I"] ++ wsX50 ++ wsX40)
def wsX5_put : List Cond := .code yX5_put cX5_put 4 (some .int) :: ([.constant RX5 47 (-100001), .fieldLink RX5 21 "GraveRows" "sheets" "[LGraveRows$Sheet;", .constant RX5 146 (-100002), .fieldLink RX5 139 "GraveRows$Sheet" "length" "I", .methodLink RX5 129 yX5_isSheet, .static yX5_isSheet, .initialized RX5, .code yX5_isSheet cX5_isSheet 1 (some .boolean), .methodLink RX5 48 yX5_finding, .instanceMethod yX5_finding, .selects RX5 yX5_finding yX5_finding, .code yX5_finding cX5_finding 2 (some .int), .fieldLink RX5 282 "GraveRows" "findings" "I", .methodLink RX5 142 yX4_isMissing, .instanceMethod yX4_isMissing, .selects RX4 yX4_isMissing yX4_isMissing, .initialized RX4, .code yX4_isMissing cX4_isMissing 1 (some .boolean), .fieldLink RX4 15 "GraveRows$Sheet" "bits" "I", .methodLink RX5 147 yX4_write, .instanceMethod yX4_write, .selects RX4 yX4_write yX4_write, .code yX4_write cX4_write 3 none, .fieldLink RX4 9 "GraveRows$Sheet" "numbers" "[I"] ++ wsX50 ++ wsX40)
def wsX5_copy_r1 : List Cond := [Cond.constant RX5 47 (-100001), Cond.fieldLink RX5 21 "GraveRows" "sheets" "[LGraveRows$Sheet;", Cond.constant RX5 146 (-100002), Cond.fieldLink RX5 150 "GraveRows$Sheet" "bits" "I", Cond.constant RX5 73 (-100004), Cond.fieldLink RX5 156 "GraveRows$Sheet" "numbers" "[I", Cond.methodLink RX5 160 arraycopyName, Cond.native arraycopyName, Cond.static arraycopyName, Cond.initialized "java/lang/System", Cond.methodLink RX5 129 yX5_isSheet, Cond.static yX5_isSheet, Cond.initialized RX5, Cond.code yX5_isSheet cX5_isSheet 1 (some .boolean), Cond.methodLink RX5 48 yX5_finding, Cond.instanceMethod yX5_finding, Cond.selects RX5 yX5_finding yX5_finding, Cond.code yX5_finding cX5_finding 2 (some .int), Cond.fieldLink RX5 282 "GraveRows" "findings" "I", Cond.methodLink RX5 142 yX4_isMissing, Cond.instanceMethod yX4_isMissing, Cond.selects RX4 yX4_isMissing yX4_isMissing, Cond.initialized RX4, Cond.code yX4_isMissing cX4_isMissing 1 (some .boolean)]
def wsX5_copy_r2 : List Cond := [Cond.fieldLink RX4 15 "GraveRows$Sheet" "bits" "I", Cond.methodLink RX5 153 yX4_hasStretch, Cond.instanceMethod yX4_hasStretch, Cond.selects RX4 yX4_hasStretch yX4_hasStretch, Cond.code yX4_hasStretch cX4_hasStretch 3 (some .boolean), Cond.fieldLink RX4 19 "GraveRows$Sheet" "length" "I"]
def wsX5_copy : List Cond := .code yX5_copy cX5_copy 8 (some .int) :: ((wsX5_copy_r1 ++ wsX5_copy_r2) ++ wsX50 ++ wsX40)
def wsX5_read_r1 : List Cond := [Cond.fieldLink RX5 12 "GraveRows" "ground" "LGraveRows$Ground;", Cond.constant RX5 47 (-100001), Cond.fieldLink RX5 21 "GraveRows" "sheets" "[LGraveRows$Sheet;", Cond.constant RX5 146 (-100002), Cond.fieldLink RX5 64 "GraveRows$Ground" "graves" "[LGraveRows$Grave;", Cond.fieldLink RX5 74 "GraveRows$Grave" "goods" "I", Cond.methodLink RX5 61 yX2_holds, Cond.instanceMethod yX2_holds, Cond.selects RX2 yX2_holds yX2_holds, Cond.initialized RX2, Cond.code yX2_holds cX2_holds 2 (some .boolean), Cond.fieldLink RX2 41 "GraveRows$Ground" "size" "I", Cond.methodLink RX5 129 yX5_isSheet, Cond.static yX5_isSheet, Cond.initialized RX5, Cond.code yX5_isSheet cX5_isSheet 1 (some .boolean), Cond.methodLink RX5 48 yX5_finding, Cond.instanceMethod yX5_finding, Cond.selects RX5 yX5_finding yX5_finding, Cond.code yX5_finding cX5_finding 2 (some .int), Cond.fieldLink RX5 282 "GraveRows" "findings" "I", Cond.methodLink RX5 142 yX4_isMissing, Cond.instanceMethod yX4_isMissing, Cond.selects RX4 yX4_isMissing yX4_isMissing]
def wsX5_read_r2 : List Cond := [Cond.initialized RX4, Cond.code yX4_isMissing cX4_isMissing 1 (some .boolean), Cond.fieldLink RX4 15 "GraveRows$Sheet" "bits" "I", Cond.methodLink RX5 166 yX4_goodsReadInto, Cond.instanceMethod yX4_goodsReadInto, Cond.selects RX4 yX4_goodsReadInto yX4_goodsReadInto, Cond.code yX4_goodsReadInto cX4_goodsReadInto 4 (some .int), Cond.fieldLink RX4 19 "GraveRows$Sheet" "length" "I", Cond.fieldLink RX4 9 "GraveRows$Sheet" "numbers" "[I", Cond.methodLink RX5 95 yJ6_bitCount_0f7a4, Cond.static yJ6_bitCount_0f7a4, Cond.initialized RJ6, Cond.code yJ6_bitCount_0f7a4 cJ6_bitCount_0f7a4 1 (some .int), Cond.constant RJ6 265 (1431655765), Cond.constant RJ6 266 (858993459), Cond.constant RJ6 267 (252645135)]
def wsX5_read : List Cond := .code yX5_read cX5_read 4 (some .int) :: ((wsX5_read_r1 ++ wsX5_read_r2) ++ wsX50 ++ wsX20 ++ wsX10 ++ wsX40)
def wsX5_orderHindrance : List Cond := .code yX5_orderHindrance cX5_orderHindrance 1 (some .int) :: ([.fieldLink RX5 12 "GraveRows" "ground" "LGraveRows$Ground;", .fieldLink RX5 52 "GraveRows$Ground" "size" "I", .constant RX5 125 (-100006), .constant RX5 285 (-100008)] ++ wsX50 ++ wsX20)
def wsX5_order_r1 : List Cond := [Cond.fieldLink RX5 29 "GraveRows" "search" "LGraveRows$RowSearch;", Cond.fieldLink RX5 12 "GraveRows" "ground" "LGraveRows$Ground;", Cond.methodLink RX5 169 yX5_orderHindrance, Cond.instanceMethod yX5_orderHindrance, Cond.selects RX5 yX5_orderHindrance yX5_orderHindrance, Cond.initialized RX5, Cond.code yX5_orderHindrance cX5_orderHindrance 1 (some .int), Cond.fieldLink RX5 52 "GraveRows$Ground" "size" "I", Cond.constant RX5 125 (-100006), Cond.constant RX5 285 (-100008), Cond.methodLink RX5 48 yX5_finding, Cond.instanceMethod yX5_finding, Cond.selects RX5 yX5_finding yX5_finding, Cond.code yX5_finding cX5_finding 2 (some .int), Cond.fieldLink RX5 282 "GraveRows" "findings" "I", Cond.methodLink RX5 173 yX3_solve, Cond.instanceMethod yX3_solve, Cond.selects RX3 yX3_solve yX3_solve, Cond.initialized RX3, Cond.code yX3_solve cX3_solve 3 none, Cond.methodLink RX3 33 yX3_takeIn, Cond.instanceMethod yX3_takeIn, Cond.selects RX3 yX3_takeIn yX3_takeIn, Cond.code yX3_takeIn cX3_takeIn 8 (some .boolean)]
def wsX5_order_r2 : List Cond := [Cond.fieldLink RX3 46 "GraveRows$RowSearch" "size" "I", Cond.fieldLink RX3 50 "GraveRows$Ground" "size" "I", Cond.methodLink RX3 53 Lib.Math.min.name, Cond.static Lib.Math.min.name, Cond.initialized "java/lang/Math", Cond.code Lib.Math.min.name Lib.Math.min.code 2 (some .int), Cond.fieldLink RX3 59 "GraveRows$Ground" "graves" "[LGraveRows$Grave;", Cond.fieldLink RX3 63 "GraveRows$Grave" "goods" "I", Cond.fieldLink RX3 9 "GraveRows$RowSearch" "goods" "[I", Cond.fieldLink RX3 15 "GraveRows$RowSearch" "lacked" "[I", Cond.fieldLink RX3 18 "GraveRows$RowSearch" "cuts" "[I", Cond.fieldLink RX3 71 "GraveRows$Grave" "cuts" "I", Cond.methodLink RX3 67 yX1_goodsSurelyLacked, Cond.instanceMethod yX1_goodsSurelyLacked, Cond.selects RX1 yX1_goodsSurelyLacked yX1_goodsSurelyLacked, Cond.initialized RX1, Cond.code yX1_goodsSurelyLacked cX1_goodsSurelyLacked 1 (some .int), Cond.fieldLink RX1 21 "GraveRows$Grave" "goods" "I", Cond.methodLink RX1 43 yX1_isOfKind, Cond.instanceMethod yX1_isOfKind, Cond.selects RX1 yX1_isOfKind yX1_isOfKind, Cond.code yX1_isOfKind cX1_isOfKind 4 (some .boolean), Cond.fieldLink RX1 9 "GraveRows$Grave" "kind" "I", Cond.fieldLink RX1 39 "GraveRows$Grave" "KIND_ABOVE" "[I"]
def wsX5_order_r3 : List Cond := [Cond.methodLink RX3 37 yX3_joinGoods, Cond.instanceMethod yX3_joinGoods, Cond.selects RX3 yX3_joinGoods yX3_joinGoods, Cond.code yX3_joinGoods cX3_joinGoods 4 none, Cond.fieldLink RX3 21 "GraveRows$RowSearch" "goodsOfSet" "[I", Cond.methodLink RX3 40 yX3_weighSets, Cond.instanceMethod yX3_weighSets, Cond.selects RX3 yX3_weighSets yX3_weighSets, Cond.code yX3_weighSets cX3_weighSets 7 none, Cond.fieldLink RX3 24 "GraveRows$RowSearch" "costBehind" "[I", Cond.fieldLink RX3 27 "GraveRows$RowSearch" "waysBehind" "[I", Cond.constant RX3 76 (1000000), Cond.methodLink RX3 73 yX3_allGraves, Cond.instanceMethod yX3_allGraves, Cond.selects RX3 yX3_allGraves yX3_allGraves, Cond.code yX3_allGraves cX3_allGraves 1 (some .int), Cond.methodLink RX3 77 yX3_mayFollow, Cond.instanceMethod yX3_mayFollow, Cond.selects RX3 yX3_mayFollow yX3_mayFollow, Cond.code yX3_mayFollow cX3_mayFollow 3 (some .boolean), Cond.static yX5_isIn, Cond.code yX5_isIn cX5_isIn 2 (some .boolean), Cond.methodLink RX3 81 yX3_costThrough, Cond.instanceMethod yX3_costThrough]
def wsX5_order_r4 : List Cond := [Cond.selects RX3 yX3_costThrough yX3_costThrough, Cond.code yX3_costThrough cX3_costThrough 5 (some .int), Cond.methodLink RX3 87 yJ6_bitCount_0f7a4, Cond.static yJ6_bitCount_0f7a4, Cond.initialized RJ6, Cond.code yJ6_bitCount_0f7a4 cJ6_bitCount_0f7a4 1 (some .int), Cond.constant RJ6 265 (1431655765), Cond.constant RJ6 266 (858993459), Cond.constant RJ6 267 (252645135), Cond.methodLink RX3 43 yX3_walkFirstRow, Cond.instanceMethod yX3_walkFirstRow, Cond.selects RX3 yX3_walkFirstRow yX3_walkFirstRow, Cond.code yX3_walkFirstRow cX3_walkFirstRow 4 none, Cond.fieldLink RX3 30 "GraveRows$RowSearch" "row" "[I", Cond.methodLink RX5 177 yX3_leastCost, Cond.instanceMethod yX3_leastCost, Cond.selects RX3 yX3_leastCost yX3_leastCost, Cond.code yX3_leastCost cX3_leastCost 1 (some .int)]
def wsX5_order : List Cond := .code yX5_order cX5_order 2 (some .int) :: ((wsX5_order_r1 ++ (wsX5_order_r2 ++ (wsX5_order_r3 ++ wsX5_order_r4))) ++ wsX50 ++ wsX20 ++ wsX30 ++ wsX10)
def wsX5_at_r1 : List Cond := [Cond.fieldLink RX5 12 "GraveRows" "ground" "LGraveRows$Ground;", Cond.fieldLink RX5 52 "GraveRows$Ground" "size" "I", Cond.constant RX5 47 (-100001), Cond.fieldLink RX5 29 "GraveRows" "search" "LGraveRows$RowSearch;", Cond.fieldLink RX5 180 "GraveRows$RowSearch" "row" "[I", Cond.methodLink RX5 169 yX5_orderHindrance, Cond.instanceMethod yX5_orderHindrance, Cond.selects RX5 yX5_orderHindrance yX5_orderHindrance, Cond.initialized RX5, Cond.code yX5_orderHindrance cX5_orderHindrance 1 (some .int), Cond.constant RX5 125 (-100006), Cond.constant RX5 285 (-100008), Cond.methodLink RX5 48 yX5_finding, Cond.instanceMethod yX5_finding, Cond.selects RX5 yX5_finding yX5_finding, Cond.code yX5_finding cX5_finding 2 (some .int), Cond.fieldLink RX5 282 "GraveRows" "findings" "I", Cond.methodLink RX5 173 yX3_solve, Cond.instanceMethod yX3_solve, Cond.selects RX3 yX3_solve yX3_solve, Cond.initialized RX3, Cond.code yX3_solve cX3_solve 3 none, Cond.methodLink RX3 33 yX3_takeIn, Cond.instanceMethod yX3_takeIn]
def wsX5_at_r2 : List Cond := [Cond.selects RX3 yX3_takeIn yX3_takeIn, Cond.code yX3_takeIn cX3_takeIn 8 (some .boolean), Cond.fieldLink RX3 46 "GraveRows$RowSearch" "size" "I", Cond.fieldLink RX3 50 "GraveRows$Ground" "size" "I", Cond.methodLink RX3 53 Lib.Math.min.name, Cond.static Lib.Math.min.name, Cond.initialized "java/lang/Math", Cond.code Lib.Math.min.name Lib.Math.min.code 2 (some .int), Cond.fieldLink RX3 59 "GraveRows$Ground" "graves" "[LGraveRows$Grave;", Cond.fieldLink RX3 63 "GraveRows$Grave" "goods" "I", Cond.fieldLink RX3 9 "GraveRows$RowSearch" "goods" "[I", Cond.fieldLink RX3 15 "GraveRows$RowSearch" "lacked" "[I", Cond.fieldLink RX3 18 "GraveRows$RowSearch" "cuts" "[I", Cond.fieldLink RX3 71 "GraveRows$Grave" "cuts" "I", Cond.methodLink RX3 67 yX1_goodsSurelyLacked, Cond.instanceMethod yX1_goodsSurelyLacked, Cond.selects RX1 yX1_goodsSurelyLacked yX1_goodsSurelyLacked, Cond.initialized RX1, Cond.code yX1_goodsSurelyLacked cX1_goodsSurelyLacked 1 (some .int), Cond.fieldLink RX1 21 "GraveRows$Grave" "goods" "I", Cond.methodLink RX1 43 yX1_isOfKind, Cond.instanceMethod yX1_isOfKind, Cond.selects RX1 yX1_isOfKind yX1_isOfKind, Cond.code yX1_isOfKind cX1_isOfKind 4 (some .boolean)]
def wsX5_at_r3 : List Cond := [Cond.fieldLink RX1 9 "GraveRows$Grave" "kind" "I", Cond.fieldLink RX1 39 "GraveRows$Grave" "KIND_ABOVE" "[I", Cond.methodLink RX3 37 yX3_joinGoods, Cond.instanceMethod yX3_joinGoods, Cond.selects RX3 yX3_joinGoods yX3_joinGoods, Cond.code yX3_joinGoods cX3_joinGoods 4 none, Cond.fieldLink RX3 21 "GraveRows$RowSearch" "goodsOfSet" "[I", Cond.methodLink RX3 40 yX3_weighSets, Cond.instanceMethod yX3_weighSets, Cond.selects RX3 yX3_weighSets yX3_weighSets, Cond.code yX3_weighSets cX3_weighSets 7 none, Cond.fieldLink RX3 24 "GraveRows$RowSearch" "costBehind" "[I", Cond.fieldLink RX3 27 "GraveRows$RowSearch" "waysBehind" "[I", Cond.constant RX3 76 (1000000), Cond.methodLink RX3 73 yX3_allGraves, Cond.instanceMethod yX3_allGraves, Cond.selects RX3 yX3_allGraves yX3_allGraves, Cond.code yX3_allGraves cX3_allGraves 1 (some .int), Cond.methodLink RX3 77 yX3_mayFollow, Cond.instanceMethod yX3_mayFollow, Cond.selects RX3 yX3_mayFollow yX3_mayFollow, Cond.code yX3_mayFollow cX3_mayFollow 3 (some .boolean), Cond.static yX5_isIn, Cond.code yX5_isIn cX5_isIn 2 (some .boolean)]
def wsX5_at_r4 : List Cond := [Cond.methodLink RX3 81 yX3_costThrough, Cond.instanceMethod yX3_costThrough, Cond.selects RX3 yX3_costThrough yX3_costThrough, Cond.code yX3_costThrough cX3_costThrough 5 (some .int), Cond.methodLink RX3 87 yJ6_bitCount_0f7a4, Cond.static yJ6_bitCount_0f7a4, Cond.initialized RJ6, Cond.code yJ6_bitCount_0f7a4 cJ6_bitCount_0f7a4 1 (some .int), Cond.constant RJ6 265 (1431655765), Cond.constant RJ6 266 (858993459), Cond.constant RJ6 267 (252645135), Cond.methodLink RX3 43 yX3_walkFirstRow, Cond.instanceMethod yX3_walkFirstRow, Cond.selects RX3 yX3_walkFirstRow yX3_walkFirstRow, Cond.code yX3_walkFirstRow cX3_walkFirstRow 4 none, Cond.fieldLink RX3 30 "GraveRows$RowSearch" "row" "[I"]
def wsX5_at : List Cond := .code yX5_at cX5_at 3 (some .int) :: ((wsX5_at_r1 ++ (wsX5_at_r2 ++ (wsX5_at_r3 ++ wsX5_at_r4))) ++ wsX50 ++ wsX20 ++ wsX30 ++ wsX10)
def wsX5_isGood : List Cond := .code yX5_isGood cX5_isGood 1 (some .boolean) :: ([])
def wsX5_holes_r1 : List Cond := [Cond.constant RX5 47 (-100001), Cond.fieldLink RX5 29 "GraveRows" "search" "LGraveRows$RowSearch;", Cond.fieldLink RX5 12 "GraveRows" "ground" "LGraveRows$Ground;", Cond.methodLink RX5 183 yX5_isGood, Cond.static yX5_isGood, Cond.initialized RX5, Cond.code yX5_isGood cX5_isGood 1 (some .boolean), Cond.methodLink RX5 48 yX5_finding, Cond.instanceMethod yX5_finding, Cond.selects RX5 yX5_finding yX5_finding, Cond.code yX5_finding cX5_finding 2 (some .int), Cond.fieldLink RX5 282 "GraveRows" "findings" "I", Cond.methodLink RX5 169 yX5_orderHindrance, Cond.instanceMethod yX5_orderHindrance, Cond.selects RX5 yX5_orderHindrance yX5_orderHindrance, Cond.code yX5_orderHindrance cX5_orderHindrance 1 (some .int), Cond.fieldLink RX5 52 "GraveRows$Ground" "size" "I", Cond.constant RX5 125 (-100006), Cond.constant RX5 285 (-100008), Cond.methodLink RX5 173 yX3_solve, Cond.instanceMethod yX3_solve, Cond.selects RX3 yX3_solve yX3_solve, Cond.initialized RX3, Cond.code yX3_solve cX3_solve 3 none]
def wsX5_holes_r2 : List Cond := [Cond.methodLink RX3 33 yX3_takeIn, Cond.instanceMethod yX3_takeIn, Cond.selects RX3 yX3_takeIn yX3_takeIn, Cond.code yX3_takeIn cX3_takeIn 8 (some .boolean), Cond.fieldLink RX3 46 "GraveRows$RowSearch" "size" "I", Cond.fieldLink RX3 50 "GraveRows$Ground" "size" "I", Cond.methodLink RX3 53 Lib.Math.min.name, Cond.static Lib.Math.min.name, Cond.initialized "java/lang/Math", Cond.code Lib.Math.min.name Lib.Math.min.code 2 (some .int), Cond.fieldLink RX3 59 "GraveRows$Ground" "graves" "[LGraveRows$Grave;", Cond.fieldLink RX3 63 "GraveRows$Grave" "goods" "I", Cond.fieldLink RX3 9 "GraveRows$RowSearch" "goods" "[I", Cond.fieldLink RX3 15 "GraveRows$RowSearch" "lacked" "[I", Cond.fieldLink RX3 18 "GraveRows$RowSearch" "cuts" "[I", Cond.fieldLink RX3 71 "GraveRows$Grave" "cuts" "I", Cond.methodLink RX3 67 yX1_goodsSurelyLacked, Cond.instanceMethod yX1_goodsSurelyLacked, Cond.selects RX1 yX1_goodsSurelyLacked yX1_goodsSurelyLacked, Cond.initialized RX1, Cond.code yX1_goodsSurelyLacked cX1_goodsSurelyLacked 1 (some .int), Cond.fieldLink RX1 21 "GraveRows$Grave" "goods" "I", Cond.methodLink RX1 43 yX1_isOfKind, Cond.instanceMethod yX1_isOfKind]
def wsX5_holes_r3 : List Cond := [Cond.selects RX1 yX1_isOfKind yX1_isOfKind, Cond.code yX1_isOfKind cX1_isOfKind 4 (some .boolean), Cond.fieldLink RX1 9 "GraveRows$Grave" "kind" "I", Cond.fieldLink RX1 39 "GraveRows$Grave" "KIND_ABOVE" "[I", Cond.methodLink RX3 37 yX3_joinGoods, Cond.instanceMethod yX3_joinGoods, Cond.selects RX3 yX3_joinGoods yX3_joinGoods, Cond.code yX3_joinGoods cX3_joinGoods 4 none, Cond.fieldLink RX3 21 "GraveRows$RowSearch" "goodsOfSet" "[I", Cond.methodLink RX3 40 yX3_weighSets, Cond.instanceMethod yX3_weighSets, Cond.selects RX3 yX3_weighSets yX3_weighSets, Cond.code yX3_weighSets cX3_weighSets 7 none, Cond.fieldLink RX3 24 "GraveRows$RowSearch" "costBehind" "[I", Cond.fieldLink RX3 27 "GraveRows$RowSearch" "waysBehind" "[I", Cond.constant RX3 76 (1000000), Cond.methodLink RX3 73 yX3_allGraves, Cond.instanceMethod yX3_allGraves, Cond.selects RX3 yX3_allGraves yX3_allGraves, Cond.code yX3_allGraves cX3_allGraves 1 (some .int), Cond.methodLink RX3 77 yX3_mayFollow, Cond.instanceMethod yX3_mayFollow, Cond.selects RX3 yX3_mayFollow yX3_mayFollow, Cond.code yX3_mayFollow cX3_mayFollow 3 (some .boolean)]
def wsX5_holes_r4 : List Cond := [Cond.static yX5_isIn, Cond.code yX5_isIn cX5_isIn 2 (some .boolean), Cond.methodLink RX3 81 yX3_costThrough, Cond.instanceMethod yX3_costThrough, Cond.selects RX3 yX3_costThrough yX3_costThrough, Cond.code yX3_costThrough cX3_costThrough 5 (some .int), Cond.methodLink RX3 87 yJ6_bitCount_0f7a4, Cond.static yJ6_bitCount_0f7a4, Cond.initialized RJ6, Cond.code yJ6_bitCount_0f7a4 cJ6_bitCount_0f7a4 1 (some .int), Cond.constant RJ6 265 (1431655765), Cond.constant RJ6 266 (858993459), Cond.constant RJ6 267 (252645135), Cond.methodLink RX3 43 yX3_walkFirstRow, Cond.instanceMethod yX3_walkFirstRow, Cond.selects RX3 yX3_walkFirstRow yX3_walkFirstRow, Cond.code yX3_walkFirstRow cX3_walkFirstRow 4 none, Cond.fieldLink RX3 30 "GraveRows$RowSearch" "row" "[I", Cond.methodLink RX5 186 yX3_holesOf, Cond.instanceMethod yX3_holesOf, Cond.selects RX3 yX3_holesOf yX3_holesOf, Cond.code yX3_holesOf cX3_holesOf 5 (some .int), Cond.methodLink RX3 93 yX3_lastPlaceOf, Cond.instanceMethod yX3_lastPlaceOf]
def wsX5_holes_r5 : List Cond := [Cond.selects RX3 yX3_lastPlaceOf yX3_lastPlaceOf, Cond.code yX3_lastPlaceOf cX3_lastPlaceOf 3 (some .int), Cond.methodLink RX3 96 yX3_firstPlaceOf, Cond.instanceMethod yX3_firstPlaceOf, Cond.selects RX3 yX3_firstPlaceOf yX3_firstPlaceOf, Cond.code yX3_firstPlaceOf cX3_firstPlaceOf 3 (some .int)]
def wsX5_holes : List Cond := .code yX5_holes cX5_holes 3 (some .int) :: ((wsX5_holes_r1 ++ (wsX5_holes_r2 ++ (wsX5_holes_r3 ++ (wsX5_holes_r4 ++ wsX5_holes_r5)))) ++ wsX50 ++ wsX20 ++ wsX30 ++ wsX10)
def wsX5_good_r1 : List Cond := [Cond.constant RX5 47 (-100001), Cond.fieldLink RX5 12 "GraveRows" "ground" "LGraveRows$Ground;", Cond.constant RX5 125 (-100006), Cond.fieldLink RX5 29 "GraveRows" "search" "LGraveRows$RowSearch;", Cond.methodLink RX5 183 yX5_isGood, Cond.static yX5_isGood, Cond.initialized RX5, Cond.code yX5_isGood cX5_isGood 1 (some .boolean), Cond.methodLink RX5 48 yX5_finding, Cond.instanceMethod yX5_finding, Cond.selects RX5 yX5_finding yX5_finding, Cond.code yX5_finding cX5_finding 2 (some .int), Cond.fieldLink RX5 282 "GraveRows" "findings" "I", Cond.methodLink RX5 189 yX2_havers, Cond.instanceMethod yX2_havers, Cond.selects RX2 yX2_havers yX2_havers, Cond.initialized RX2, Cond.code yX2_havers cX2_havers 4 (some .int), Cond.fieldLink RX2 41 "GraveRows$Ground" "size" "I", Cond.fieldLink RX2 11 "GraveRows$Ground" "graves" "[LGraveRows$Grave;", Cond.fieldLink RX2 98 "GraveRows$Grave" "goods" "I", Cond.static yX5_isIn, Cond.code yX5_isIn cX5_isIn 2 (some .boolean), Cond.methodLink RX5 169 yX5_orderHindrance]
def wsX5_good_r2 : List Cond := [Cond.instanceMethod yX5_orderHindrance, Cond.selects RX5 yX5_orderHindrance yX5_orderHindrance, Cond.code yX5_orderHindrance cX5_orderHindrance 1 (some .int), Cond.fieldLink RX5 52 "GraveRows$Ground" "size" "I", Cond.constant RX5 285 (-100008), Cond.methodLink RX5 173 yX3_solve, Cond.instanceMethod yX3_solve, Cond.selects RX3 yX3_solve yX3_solve, Cond.initialized RX3, Cond.code yX3_solve cX3_solve 3 none, Cond.methodLink RX3 33 yX3_takeIn, Cond.instanceMethod yX3_takeIn, Cond.selects RX3 yX3_takeIn yX3_takeIn, Cond.code yX3_takeIn cX3_takeIn 8 (some .boolean), Cond.fieldLink RX3 46 "GraveRows$RowSearch" "size" "I", Cond.fieldLink RX3 50 "GraveRows$Ground" "size" "I", Cond.methodLink RX3 53 Lib.Math.min.name, Cond.static Lib.Math.min.name, Cond.initialized "java/lang/Math", Cond.code Lib.Math.min.name Lib.Math.min.code 2 (some .int), Cond.fieldLink RX3 59 "GraveRows$Ground" "graves" "[LGraveRows$Grave;", Cond.fieldLink RX3 63 "GraveRows$Grave" "goods" "I", Cond.fieldLink RX3 9 "GraveRows$RowSearch" "goods" "[I", Cond.fieldLink RX3 15 "GraveRows$RowSearch" "lacked" "[I"]
def wsX5_good_r3 : List Cond := [Cond.fieldLink RX3 18 "GraveRows$RowSearch" "cuts" "[I", Cond.fieldLink RX3 71 "GraveRows$Grave" "cuts" "I", Cond.methodLink RX3 67 yX1_goodsSurelyLacked, Cond.instanceMethod yX1_goodsSurelyLacked, Cond.selects RX1 yX1_goodsSurelyLacked yX1_goodsSurelyLacked, Cond.initialized RX1, Cond.code yX1_goodsSurelyLacked cX1_goodsSurelyLacked 1 (some .int), Cond.fieldLink RX1 21 "GraveRows$Grave" "goods" "I", Cond.methodLink RX1 43 yX1_isOfKind, Cond.instanceMethod yX1_isOfKind, Cond.selects RX1 yX1_isOfKind yX1_isOfKind, Cond.code yX1_isOfKind cX1_isOfKind 4 (some .boolean), Cond.fieldLink RX1 9 "GraveRows$Grave" "kind" "I", Cond.fieldLink RX1 39 "GraveRows$Grave" "KIND_ABOVE" "[I", Cond.methodLink RX3 37 yX3_joinGoods, Cond.instanceMethod yX3_joinGoods, Cond.selects RX3 yX3_joinGoods yX3_joinGoods, Cond.code yX3_joinGoods cX3_joinGoods 4 none, Cond.fieldLink RX3 21 "GraveRows$RowSearch" "goodsOfSet" "[I", Cond.methodLink RX3 40 yX3_weighSets, Cond.instanceMethod yX3_weighSets, Cond.selects RX3 yX3_weighSets yX3_weighSets, Cond.code yX3_weighSets cX3_weighSets 7 none, Cond.fieldLink RX3 24 "GraveRows$RowSearch" "costBehind" "[I"]
def wsX5_good_r4 : List Cond := [Cond.fieldLink RX3 27 "GraveRows$RowSearch" "waysBehind" "[I", Cond.constant RX3 76 (1000000), Cond.methodLink RX3 73 yX3_allGraves, Cond.instanceMethod yX3_allGraves, Cond.selects RX3 yX3_allGraves yX3_allGraves, Cond.code yX3_allGraves cX3_allGraves 1 (some .int), Cond.methodLink RX3 77 yX3_mayFollow, Cond.instanceMethod yX3_mayFollow, Cond.selects RX3 yX3_mayFollow yX3_mayFollow, Cond.code yX3_mayFollow cX3_mayFollow 3 (some .boolean), Cond.methodLink RX3 81 yX3_costThrough, Cond.instanceMethod yX3_costThrough, Cond.selects RX3 yX3_costThrough yX3_costThrough, Cond.code yX3_costThrough cX3_costThrough 5 (some .int), Cond.methodLink RX3 87 yJ6_bitCount_0f7a4, Cond.static yJ6_bitCount_0f7a4, Cond.initialized RJ6, Cond.code yJ6_bitCount_0f7a4 cJ6_bitCount_0f7a4 1 (some .int), Cond.constant RJ6 265 (1431655765), Cond.constant RJ6 266 (858993459), Cond.constant RJ6 267 (252645135), Cond.methodLink RX3 43 yX3_walkFirstRow, Cond.instanceMethod yX3_walkFirstRow, Cond.selects RX3 yX3_walkFirstRow yX3_walkFirstRow]
def wsX5_good_r5 : List Cond := [Cond.code yX3_walkFirstRow cX3_walkFirstRow 4 none, Cond.fieldLink RX3 30 "GraveRows$RowSearch" "row" "[I", Cond.methodLink RX5 192 yX3_lastPlaceOf, Cond.instanceMethod yX3_lastPlaceOf, Cond.selects RX3 yX3_lastPlaceOf yX3_lastPlaceOf, Cond.code yX3_lastPlaceOf cX3_lastPlaceOf 3 (some .int), Cond.methodLink RX5 195 yX3_firstPlaceOf, Cond.instanceMethod yX3_firstPlaceOf, Cond.selects RX3 yX3_firstPlaceOf yX3_firstPlaceOf, Cond.code yX3_firstPlaceOf cX3_firstPlaceOf 3 (some .int)]
def wsX5_good : List Cond := .code yX5_good cX5_good 4 (some .int) :: ((wsX5_good_r1 ++ (wsX5_good_r2 ++ (wsX5_good_r3 ++ (wsX5_good_r4 ++ wsX5_good_r5)))) ++ wsX50 ++ wsX20 ++ wsX10 ++ wsX30)
def wsX5_tell : List Cond := .code yX5_tell cX5_tell 2 (some .int) :: ([.fieldLink RX5 12 "GraveRows" "ground" "LGraveRows$Ground;", .fieldLink RX5 198 "GraveRows$Ground" "waits" "I", .constant RX5 56 (-100005), .fieldLink RX5 201 "GraveRows$Ground" "waiting" "[I", .methodLink RX5 48 yX5_finding, .instanceMethod yX5_finding, .selects RX5 yX5_finding yX5_finding, .initialized RX5, .code yX5_finding cX5_finding 2 (some .int), .fieldLink RX5 282 "GraveRows" "findings" "I"] ++ wsX50 ++ wsX20)
def wsX5_check_r1 : List Cond := [Cond.fieldLink RX5 12 "GraveRows" "ground" "LGraveRows$Ground;", Cond.fieldLink RX5 198 "GraveRows$Ground" "waits" "I", Cond.fieldLink RX5 52 "GraveRows$Ground" "size" "I", Cond.constant RX5 125 (-100006), Cond.fieldLink RX5 201 "GraveRows$Ground" "waiting" "[I", Cond.methodLink RX5 48 yX5_finding, Cond.instanceMethod yX5_finding, Cond.selects RX5 yX5_finding yX5_finding, Cond.initialized RX5, Cond.code yX5_finding cX5_finding 2 (some .int), Cond.fieldLink RX5 282 "GraveRows" "findings" "I", Cond.methodLink RX5 204 yX2_fitsBehind, Cond.instanceMethod yX2_fitsBehind, Cond.selects RX2 yX2_fitsBehind yX2_fitsBehind, Cond.initialized RX2, Cond.code yX2_fitsBehind cX2_fitsBehind 5 (some .boolean), Cond.fieldLink RX2 24 "GraveRows$Ground" "waiting" "[I", Cond.fieldLink RX2 11 "GraveRows$Ground" "graves" "[LGraveRows$Grave;", Cond.fieldLink RX2 52 "GraveRows$Grave" "cuts" "I", Cond.methodLink RX2 101 yX2_holds, Cond.instanceMethod yX2_holds, Cond.selects RX2 yX2_holds yX2_holds, Cond.code yX2_holds cX2_holds 2 (some .boolean), Cond.fieldLink RX2 41 "GraveRows$Ground" "size" "I"]
def wsX5_check_r2 : List Cond := [Cond.static yX5_isIn, Cond.code yX5_isIn cX5_isIn 2 (some .boolean), Cond.methodLink RX5 208 yX2_costOfWaiting, Cond.instanceMethod yX2_costOfWaiting, Cond.selects RX2 yX2_costOfWaiting yX2_costOfWaiting, Cond.code yX2_costOfWaiting cX2_costOfWaiting 7 (some .int), Cond.fieldLink RX2 98 "GraveRows$Grave" "goods" "I", Cond.methodLink RX2 105 yX1_goodsSurelyLacked, Cond.instanceMethod yX1_goodsSurelyLacked, Cond.selects RX1 yX1_goodsSurelyLacked yX1_goodsSurelyLacked, Cond.initialized RX1, Cond.code yX1_goodsSurelyLacked cX1_goodsSurelyLacked 1 (some .int), Cond.fieldLink RX1 21 "GraveRows$Grave" "goods" "I", Cond.methodLink RX1 43 yX1_isOfKind, Cond.instanceMethod yX1_isOfKind, Cond.selects RX1 yX1_isOfKind yX1_isOfKind, Cond.code yX1_isOfKind cX1_isOfKind 4 (some .boolean), Cond.fieldLink RX1 9 "GraveRows$Grave" "kind" "I", Cond.fieldLink RX1 39 "GraveRows$Grave" "KIND_ABOVE" "[I", Cond.methodLink RX2 55 yJ6_bitCount_0f7a4, Cond.static yJ6_bitCount_0f7a4, Cond.initialized RJ6, Cond.code yJ6_bitCount_0f7a4 cJ6_bitCount_0f7a4 1 (some .int), Cond.constant RJ6 265 (1431655765)]
def wsX5_check_r3 : List Cond := [Cond.constant RJ6 266 (858993459), Cond.constant RJ6 267 (252645135)]
def wsX5_check : List Cond := .code yX5_check cX5_check 4 (some .int) :: ((wsX5_check_r1 ++ (wsX5_check_r2 ++ wsX5_check_r3)) ++ wsX50 ++ wsX20 ++ wsX10)
def wsX5_without_r1 : List Cond := [Cond.constant RX5 47 (-100001), Cond.fieldLink RX5 29 "GraveRows" "search" "LGraveRows$RowSearch;", Cond.fieldLink RX5 12 "GraveRows" "ground" "LGraveRows$Ground;", Cond.methodLink RX5 183 yX5_isGood, Cond.static yX5_isGood, Cond.initialized RX5, Cond.code yX5_isGood cX5_isGood 1 (some .boolean), Cond.methodLink RX5 48 yX5_finding, Cond.instanceMethod yX5_finding, Cond.selects RX5 yX5_finding yX5_finding, Cond.code yX5_finding cX5_finding 2 (some .int), Cond.fieldLink RX5 282 "GraveRows" "findings" "I", Cond.methodLink RX5 169 yX5_orderHindrance, Cond.instanceMethod yX5_orderHindrance, Cond.selects RX5 yX5_orderHindrance yX5_orderHindrance, Cond.code yX5_orderHindrance cX5_orderHindrance 1 (some .int), Cond.fieldLink RX5 52 "GraveRows$Ground" "size" "I", Cond.constant RX5 125 (-100006), Cond.constant RX5 285 (-100008), Cond.methodLink RX5 173 yX3_solve, Cond.instanceMethod yX3_solve, Cond.selects RX3 yX3_solve yX3_solve, Cond.initialized RX3, Cond.code yX3_solve cX3_solve 3 none]
def wsX5_without_r2 : List Cond := [Cond.methodLink RX3 33 yX3_takeIn, Cond.instanceMethod yX3_takeIn, Cond.selects RX3 yX3_takeIn yX3_takeIn, Cond.code yX3_takeIn cX3_takeIn 8 (some .boolean), Cond.fieldLink RX3 46 "GraveRows$RowSearch" "size" "I", Cond.fieldLink RX3 50 "GraveRows$Ground" "size" "I", Cond.methodLink RX3 53 Lib.Math.min.name, Cond.static Lib.Math.min.name, Cond.initialized "java/lang/Math", Cond.code Lib.Math.min.name Lib.Math.min.code 2 (some .int), Cond.fieldLink RX3 59 "GraveRows$Ground" "graves" "[LGraveRows$Grave;", Cond.fieldLink RX3 63 "GraveRows$Grave" "goods" "I", Cond.fieldLink RX3 9 "GraveRows$RowSearch" "goods" "[I", Cond.fieldLink RX3 15 "GraveRows$RowSearch" "lacked" "[I", Cond.fieldLink RX3 18 "GraveRows$RowSearch" "cuts" "[I", Cond.fieldLink RX3 71 "GraveRows$Grave" "cuts" "I", Cond.methodLink RX3 67 yX1_goodsSurelyLacked, Cond.instanceMethod yX1_goodsSurelyLacked, Cond.selects RX1 yX1_goodsSurelyLacked yX1_goodsSurelyLacked, Cond.initialized RX1, Cond.code yX1_goodsSurelyLacked cX1_goodsSurelyLacked 1 (some .int), Cond.fieldLink RX1 21 "GraveRows$Grave" "goods" "I", Cond.methodLink RX1 43 yX1_isOfKind, Cond.instanceMethod yX1_isOfKind]
def wsX5_without_r3 : List Cond := [Cond.selects RX1 yX1_isOfKind yX1_isOfKind, Cond.code yX1_isOfKind cX1_isOfKind 4 (some .boolean), Cond.fieldLink RX1 9 "GraveRows$Grave" "kind" "I", Cond.fieldLink RX1 39 "GraveRows$Grave" "KIND_ABOVE" "[I", Cond.methodLink RX3 37 yX3_joinGoods, Cond.instanceMethod yX3_joinGoods, Cond.selects RX3 yX3_joinGoods yX3_joinGoods, Cond.code yX3_joinGoods cX3_joinGoods 4 none, Cond.fieldLink RX3 21 "GraveRows$RowSearch" "goodsOfSet" "[I", Cond.methodLink RX3 40 yX3_weighSets, Cond.instanceMethod yX3_weighSets, Cond.selects RX3 yX3_weighSets yX3_weighSets, Cond.code yX3_weighSets cX3_weighSets 7 none, Cond.fieldLink RX3 24 "GraveRows$RowSearch" "costBehind" "[I", Cond.fieldLink RX3 27 "GraveRows$RowSearch" "waysBehind" "[I", Cond.constant RX3 76 (1000000), Cond.methodLink RX3 73 yX3_allGraves, Cond.instanceMethod yX3_allGraves, Cond.selects RX3 yX3_allGraves yX3_allGraves, Cond.code yX3_allGraves cX3_allGraves 1 (some .int), Cond.methodLink RX3 77 yX3_mayFollow, Cond.instanceMethod yX3_mayFollow, Cond.selects RX3 yX3_mayFollow yX3_mayFollow, Cond.code yX3_mayFollow cX3_mayFollow 3 (some .boolean)]
def wsX5_without_r4 : List Cond := [Cond.static yX5_isIn, Cond.code yX5_isIn cX5_isIn 2 (some .boolean), Cond.methodLink RX3 81 yX3_costThrough, Cond.instanceMethod yX3_costThrough, Cond.selects RX3 yX3_costThrough yX3_costThrough, Cond.code yX3_costThrough cX3_costThrough 5 (some .int), Cond.methodLink RX3 87 yJ6_bitCount_0f7a4, Cond.static yJ6_bitCount_0f7a4, Cond.initialized RJ6, Cond.code yJ6_bitCount_0f7a4 cJ6_bitCount_0f7a4 1 (some .int), Cond.constant RJ6 265 (1431655765), Cond.constant RJ6 266 (858993459), Cond.constant RJ6 267 (252645135), Cond.methodLink RX3 43 yX3_walkFirstRow, Cond.instanceMethod yX3_walkFirstRow, Cond.selects RX3 yX3_walkFirstRow yX3_walkFirstRow, Cond.code yX3_walkFirstRow cX3_walkFirstRow 4 none, Cond.fieldLink RX3 30 "GraveRows$RowSearch" "row" "[I", Cond.methodLink RX5 177 yX3_leastCost, Cond.instanceMethod yX3_leastCost, Cond.selects RX3 yX3_leastCost yX3_leastCost, Cond.code yX3_leastCost cX3_leastCost 1 (some .int)]
def wsX5_without : List Cond := .code yX5_without cX5_without 3 (some .int) :: ((wsX5_without_r1 ++ (wsX5_without_r2 ++ (wsX5_without_r3 ++ wsX5_without_r4))) ++ wsX50 ++ wsX20 ++ wsX30 ++ wsX10)
def wsX5_ways_r1 : List Cond := [Cond.fieldLink RX5 29 "GraveRows" "search" "LGraveRows$RowSearch;", Cond.fieldLink RX5 12 "GraveRows" "ground" "LGraveRows$Ground;", Cond.methodLink RX5 169 yX5_orderHindrance, Cond.instanceMethod yX5_orderHindrance, Cond.selects RX5 yX5_orderHindrance yX5_orderHindrance, Cond.initialized RX5, Cond.code yX5_orderHindrance cX5_orderHindrance 1 (some .int), Cond.fieldLink RX5 52 "GraveRows$Ground" "size" "I", Cond.constant RX5 125 (-100006), Cond.constant RX5 285 (-100008), Cond.methodLink RX5 48 yX5_finding, Cond.instanceMethod yX5_finding, Cond.selects RX5 yX5_finding yX5_finding, Cond.code yX5_finding cX5_finding 2 (some .int), Cond.fieldLink RX5 282 "GraveRows" "findings" "I", Cond.methodLink RX5 173 yX3_solve, Cond.instanceMethod yX3_solve, Cond.selects RX3 yX3_solve yX3_solve, Cond.initialized RX3, Cond.code yX3_solve cX3_solve 3 none, Cond.methodLink RX3 33 yX3_takeIn, Cond.instanceMethod yX3_takeIn, Cond.selects RX3 yX3_takeIn yX3_takeIn, Cond.code yX3_takeIn cX3_takeIn 8 (some .boolean)]
def wsX5_ways_r2 : List Cond := [Cond.fieldLink RX3 46 "GraveRows$RowSearch" "size" "I", Cond.fieldLink RX3 50 "GraveRows$Ground" "size" "I", Cond.methodLink RX3 53 Lib.Math.min.name, Cond.static Lib.Math.min.name, Cond.initialized "java/lang/Math", Cond.code Lib.Math.min.name Lib.Math.min.code 2 (some .int), Cond.fieldLink RX3 59 "GraveRows$Ground" "graves" "[LGraveRows$Grave;", Cond.fieldLink RX3 63 "GraveRows$Grave" "goods" "I", Cond.fieldLink RX3 9 "GraveRows$RowSearch" "goods" "[I", Cond.fieldLink RX3 15 "GraveRows$RowSearch" "lacked" "[I", Cond.fieldLink RX3 18 "GraveRows$RowSearch" "cuts" "[I", Cond.fieldLink RX3 71 "GraveRows$Grave" "cuts" "I", Cond.methodLink RX3 67 yX1_goodsSurelyLacked, Cond.instanceMethod yX1_goodsSurelyLacked, Cond.selects RX1 yX1_goodsSurelyLacked yX1_goodsSurelyLacked, Cond.initialized RX1, Cond.code yX1_goodsSurelyLacked cX1_goodsSurelyLacked 1 (some .int), Cond.fieldLink RX1 21 "GraveRows$Grave" "goods" "I", Cond.methodLink RX1 43 yX1_isOfKind, Cond.instanceMethod yX1_isOfKind, Cond.selects RX1 yX1_isOfKind yX1_isOfKind, Cond.code yX1_isOfKind cX1_isOfKind 4 (some .boolean), Cond.fieldLink RX1 9 "GraveRows$Grave" "kind" "I", Cond.fieldLink RX1 39 "GraveRows$Grave" "KIND_ABOVE" "[I"]
def wsX5_ways_r3 : List Cond := [Cond.methodLink RX3 37 yX3_joinGoods, Cond.instanceMethod yX3_joinGoods, Cond.selects RX3 yX3_joinGoods yX3_joinGoods, Cond.code yX3_joinGoods cX3_joinGoods 4 none, Cond.fieldLink RX3 21 "GraveRows$RowSearch" "goodsOfSet" "[I", Cond.methodLink RX3 40 yX3_weighSets, Cond.instanceMethod yX3_weighSets, Cond.selects RX3 yX3_weighSets yX3_weighSets, Cond.code yX3_weighSets cX3_weighSets 7 none, Cond.fieldLink RX3 24 "GraveRows$RowSearch" "costBehind" "[I", Cond.fieldLink RX3 27 "GraveRows$RowSearch" "waysBehind" "[I", Cond.constant RX3 76 (1000000), Cond.methodLink RX3 73 yX3_allGraves, Cond.instanceMethod yX3_allGraves, Cond.selects RX3 yX3_allGraves yX3_allGraves, Cond.code yX3_allGraves cX3_allGraves 1 (some .int), Cond.methodLink RX3 77 yX3_mayFollow, Cond.instanceMethod yX3_mayFollow, Cond.selects RX3 yX3_mayFollow yX3_mayFollow, Cond.code yX3_mayFollow cX3_mayFollow 3 (some .boolean), Cond.static yX5_isIn, Cond.code yX5_isIn cX5_isIn 2 (some .boolean), Cond.methodLink RX3 81 yX3_costThrough, Cond.instanceMethod yX3_costThrough]
def wsX5_ways_r4 : List Cond := [Cond.selects RX3 yX3_costThrough yX3_costThrough, Cond.code yX3_costThrough cX3_costThrough 5 (some .int), Cond.methodLink RX3 87 yJ6_bitCount_0f7a4, Cond.static yJ6_bitCount_0f7a4, Cond.initialized RJ6, Cond.code yJ6_bitCount_0f7a4 cJ6_bitCount_0f7a4 1 (some .int), Cond.constant RJ6 265 (1431655765), Cond.constant RJ6 266 (858993459), Cond.constant RJ6 267 (252645135), Cond.methodLink RX3 43 yX3_walkFirstRow, Cond.instanceMethod yX3_walkFirstRow, Cond.selects RX3 yX3_walkFirstRow yX3_walkFirstRow, Cond.code yX3_walkFirstRow cX3_walkFirstRow 4 none, Cond.fieldLink RX3 30 "GraveRows$RowSearch" "row" "[I", Cond.methodLink RX5 211 yX3_leastWays, Cond.instanceMethod yX3_leastWays, Cond.selects RX3 yX3_leastWays yX3_leastWays, Cond.code yX3_leastWays cX3_leastWays 1 (some .int)]
def wsX5_ways : List Cond := .code yX5_ways cX5_ways 2 (some .int) :: ((wsX5_ways_r1 ++ (wsX5_ways_r2 ++ (wsX5_ways_r3 ++ wsX5_ways_r4))) ++ wsX50 ++ wsX20 ++ wsX30 ++ wsX10)
def wsX5_stretchHindrance : List Cond := .code yX5_stretchHindrance cX5_stretchHindrance 3 (some .int) :: ([.fieldLink RX5 12 "GraveRows" "ground" "LGraveRows$Ground;", .fieldLink RX5 52 "GraveRows$Ground" "size" "I", .constant RX5 47 (-100001), .methodLink RX5 169 yX5_orderHindrance, .instanceMethod yX5_orderHindrance, .selects RX5 yX5_orderHindrance yX5_orderHindrance, .initialized RX5, .code yX5_orderHindrance cX5_orderHindrance 1 (some .int), .constant RX5 125 (-100006), .constant RX5 285 (-100008)] ++ wsX50 ++ wsX20)
def wsX5_stretches_r1 : List Cond := [Cond.fieldLink RX5 29 "GraveRows" "search" "LGraveRows$RowSearch;", Cond.fieldLink RX5 12 "GraveRows" "ground" "LGraveRows$Ground;", Cond.fieldLink RX5 36 "GraveRows" "borders" "LGraveRows$Borders;", Cond.fieldLink RX5 221 "GraveRows$Borders" "total" "I", Cond.methodLink RX5 214 yX5_stretchHindrance, Cond.instanceMethod yX5_stretchHindrance, Cond.selects RX5 yX5_stretchHindrance yX5_stretchHindrance, Cond.initialized RX5, Cond.code yX5_stretchHindrance cX5_stretchHindrance 3 (some .int), Cond.fieldLink RX5 52 "GraveRows$Ground" "size" "I", Cond.constant RX5 47 (-100001), Cond.methodLink RX5 169 yX5_orderHindrance, Cond.instanceMethod yX5_orderHindrance, Cond.selects RX5 yX5_orderHindrance yX5_orderHindrance, Cond.code yX5_orderHindrance cX5_orderHindrance 1 (some .int), Cond.constant RX5 125 (-100006), Cond.constant RX5 285 (-100008), Cond.methodLink RX5 48 yX5_finding, Cond.instanceMethod yX5_finding, Cond.selects RX5 yX5_finding yX5_finding, Cond.code yX5_finding cX5_finding 2 (some .int), Cond.fieldLink RX5 282 "GraveRows" "findings" "I", Cond.methodLink RX5 173 yX3_solve, Cond.instanceMethod yX3_solve]
def wsX5_stretches_r2 : List Cond := [Cond.selects RX3 yX3_solve yX3_solve, Cond.initialized RX3, Cond.code yX3_solve cX3_solve 3 none, Cond.methodLink RX3 33 yX3_takeIn, Cond.instanceMethod yX3_takeIn, Cond.selects RX3 yX3_takeIn yX3_takeIn, Cond.code yX3_takeIn cX3_takeIn 8 (some .boolean), Cond.fieldLink RX3 46 "GraveRows$RowSearch" "size" "I", Cond.fieldLink RX3 50 "GraveRows$Ground" "size" "I", Cond.methodLink RX3 53 Lib.Math.min.name, Cond.static Lib.Math.min.name, Cond.initialized "java/lang/Math", Cond.code Lib.Math.min.name Lib.Math.min.code 2 (some .int), Cond.fieldLink RX3 59 "GraveRows$Ground" "graves" "[LGraveRows$Grave;", Cond.fieldLink RX3 63 "GraveRows$Grave" "goods" "I", Cond.fieldLink RX3 9 "GraveRows$RowSearch" "goods" "[I", Cond.fieldLink RX3 15 "GraveRows$RowSearch" "lacked" "[I", Cond.fieldLink RX3 18 "GraveRows$RowSearch" "cuts" "[I", Cond.fieldLink RX3 71 "GraveRows$Grave" "cuts" "I", Cond.methodLink RX3 67 yX1_goodsSurelyLacked, Cond.instanceMethod yX1_goodsSurelyLacked, Cond.selects RX1 yX1_goodsSurelyLacked yX1_goodsSurelyLacked, Cond.initialized RX1, Cond.code yX1_goodsSurelyLacked cX1_goodsSurelyLacked 1 (some .int)]
def wsX5_stretches_r3 : List Cond := [Cond.fieldLink RX1 21 "GraveRows$Grave" "goods" "I", Cond.methodLink RX1 43 yX1_isOfKind, Cond.instanceMethod yX1_isOfKind, Cond.selects RX1 yX1_isOfKind yX1_isOfKind, Cond.code yX1_isOfKind cX1_isOfKind 4 (some .boolean), Cond.fieldLink RX1 9 "GraveRows$Grave" "kind" "I", Cond.fieldLink RX1 39 "GraveRows$Grave" "KIND_ABOVE" "[I", Cond.methodLink RX3 37 yX3_joinGoods, Cond.instanceMethod yX3_joinGoods, Cond.selects RX3 yX3_joinGoods yX3_joinGoods, Cond.code yX3_joinGoods cX3_joinGoods 4 none, Cond.fieldLink RX3 21 "GraveRows$RowSearch" "goodsOfSet" "[I", Cond.methodLink RX3 40 yX3_weighSets, Cond.instanceMethod yX3_weighSets, Cond.selects RX3 yX3_weighSets yX3_weighSets, Cond.code yX3_weighSets cX3_weighSets 7 none, Cond.fieldLink RX3 24 "GraveRows$RowSearch" "costBehind" "[I", Cond.fieldLink RX3 27 "GraveRows$RowSearch" "waysBehind" "[I", Cond.constant RX3 76 (1000000), Cond.methodLink RX3 73 yX3_allGraves, Cond.instanceMethod yX3_allGraves, Cond.selects RX3 yX3_allGraves yX3_allGraves, Cond.code yX3_allGraves cX3_allGraves 1 (some .int), Cond.methodLink RX3 77 yX3_mayFollow]
def wsX5_stretches_r4 : List Cond := [Cond.instanceMethod yX3_mayFollow, Cond.selects RX3 yX3_mayFollow yX3_mayFollow, Cond.code yX3_mayFollow cX3_mayFollow 3 (some .boolean), Cond.static yX5_isIn, Cond.code yX5_isIn cX5_isIn 2 (some .boolean), Cond.methodLink RX3 81 yX3_costThrough, Cond.instanceMethod yX3_costThrough, Cond.selects RX3 yX3_costThrough yX3_costThrough, Cond.code yX3_costThrough cX3_costThrough 5 (some .int), Cond.methodLink RX3 87 yJ6_bitCount_0f7a4, Cond.static yJ6_bitCount_0f7a4, Cond.initialized RJ6, Cond.code yJ6_bitCount_0f7a4 cJ6_bitCount_0f7a4 1 (some .int), Cond.constant RJ6 265 (1431655765), Cond.constant RJ6 266 (858993459), Cond.constant RJ6 267 (252645135), Cond.methodLink RX3 43 yX3_walkFirstRow, Cond.instanceMethod yX3_walkFirstRow, Cond.selects RX3 yX3_walkFirstRow yX3_walkFirstRow, Cond.code yX3_walkFirstRow cX3_walkFirstRow 4 none, Cond.fieldLink RX3 30 "GraveRows$RowSearch" "row" "[I", Cond.methodLink RX5 217 yX0_choose, Cond.instanceMethod yX0_choose, Cond.selects RX0 yX0_choose yX0_choose]
def wsX5_stretches_r5 : List Cond := [Cond.initialized RX0, Cond.code yX0_choose cX0_choose 5 none, Cond.fieldLink RX0 19 "GraveRows$RowSearch" "size" "I", Cond.fieldLink RX0 25 "GraveRows$Borders" "size" "I", Cond.fieldLink RX0 26 "GraveRows$Borders" "total" "I", Cond.fieldLink RX0 9 "GraveRows$Borders" "goingOn" "[I", Cond.fieldLink RX0 15 "GraveRows$Borders" "isBorder" "[Z", Cond.methodLink RX0 29 yX3_goingOnAt, Cond.instanceMethod yX3_goingOnAt, Cond.selects RX3 yX3_goingOnAt yX3_goingOnAt, Cond.code yX3_goingOnAt cX3_goingOnAt 4 (some .int), Cond.methodLink RX0 33 yX0_cheapestFree, Cond.instanceMethod yX0_cheapestFree, Cond.selects RX0 yX0_cheapestFree yX0_cheapestFree, Cond.code yX0_cheapestFree cX0_cheapestFree 3 (some .int)]
def wsX5_stretches : List Cond := .code yX5_stretches cX5_stretches 3 (some .int) :: ((wsX5_stretches_r1 ++ (wsX5_stretches_r2 ++ (wsX5_stretches_r3 ++ (wsX5_stretches_r4 ++ wsX5_stretches_r5)))) ++ wsX50 ++ wsX00 ++ wsX20 ++ wsX30 ++ wsX10)
def wsX5_border_r1 : List Cond := [Cond.constant RX5 47 (-100001), Cond.fieldLink RX5 29 "GraveRows" "search" "LGraveRows$RowSearch;", Cond.fieldLink RX5 12 "GraveRows" "ground" "LGraveRows$Ground;", Cond.fieldLink RX5 36 "GraveRows" "borders" "LGraveRows$Borders;", Cond.methodLink RX5 214 yX5_stretchHindrance, Cond.instanceMethod yX5_stretchHindrance, Cond.selects RX5 yX5_stretchHindrance yX5_stretchHindrance, Cond.initialized RX5, Cond.code yX5_stretchHindrance cX5_stretchHindrance 3 (some .int), Cond.fieldLink RX5 52 "GraveRows$Ground" "size" "I", Cond.methodLink RX5 169 yX5_orderHindrance, Cond.instanceMethod yX5_orderHindrance, Cond.selects RX5 yX5_orderHindrance yX5_orderHindrance, Cond.code yX5_orderHindrance cX5_orderHindrance 1 (some .int), Cond.constant RX5 125 (-100006), Cond.constant RX5 285 (-100008), Cond.methodLink RX5 48 yX5_finding, Cond.instanceMethod yX5_finding, Cond.selects RX5 yX5_finding yX5_finding, Cond.code yX5_finding cX5_finding 2 (some .int), Cond.fieldLink RX5 282 "GraveRows" "findings" "I", Cond.methodLink RX5 173 yX3_solve, Cond.instanceMethod yX3_solve, Cond.selects RX3 yX3_solve yX3_solve]
def wsX5_border_r2 : List Cond := [Cond.initialized RX3, Cond.code yX3_solve cX3_solve 3 none, Cond.methodLink RX3 33 yX3_takeIn, Cond.instanceMethod yX3_takeIn, Cond.selects RX3 yX3_takeIn yX3_takeIn, Cond.code yX3_takeIn cX3_takeIn 8 (some .boolean), Cond.fieldLink RX3 46 "GraveRows$RowSearch" "size" "I", Cond.fieldLink RX3 50 "GraveRows$Ground" "size" "I", Cond.methodLink RX3 53 Lib.Math.min.name, Cond.static Lib.Math.min.name, Cond.initialized "java/lang/Math", Cond.code Lib.Math.min.name Lib.Math.min.code 2 (some .int), Cond.fieldLink RX3 59 "GraveRows$Ground" "graves" "[LGraveRows$Grave;", Cond.fieldLink RX3 63 "GraveRows$Grave" "goods" "I", Cond.fieldLink RX3 9 "GraveRows$RowSearch" "goods" "[I", Cond.fieldLink RX3 15 "GraveRows$RowSearch" "lacked" "[I", Cond.fieldLink RX3 18 "GraveRows$RowSearch" "cuts" "[I", Cond.fieldLink RX3 71 "GraveRows$Grave" "cuts" "I", Cond.methodLink RX3 67 yX1_goodsSurelyLacked, Cond.instanceMethod yX1_goodsSurelyLacked, Cond.selects RX1 yX1_goodsSurelyLacked yX1_goodsSurelyLacked, Cond.initialized RX1, Cond.code yX1_goodsSurelyLacked cX1_goodsSurelyLacked 1 (some .int), Cond.fieldLink RX1 21 "GraveRows$Grave" "goods" "I"]
def wsX5_border_r3 : List Cond := [Cond.methodLink RX1 43 yX1_isOfKind, Cond.instanceMethod yX1_isOfKind, Cond.selects RX1 yX1_isOfKind yX1_isOfKind, Cond.code yX1_isOfKind cX1_isOfKind 4 (some .boolean), Cond.fieldLink RX1 9 "GraveRows$Grave" "kind" "I", Cond.fieldLink RX1 39 "GraveRows$Grave" "KIND_ABOVE" "[I", Cond.methodLink RX3 37 yX3_joinGoods, Cond.instanceMethod yX3_joinGoods, Cond.selects RX3 yX3_joinGoods yX3_joinGoods, Cond.code yX3_joinGoods cX3_joinGoods 4 none, Cond.fieldLink RX3 21 "GraveRows$RowSearch" "goodsOfSet" "[I", Cond.methodLink RX3 40 yX3_weighSets, Cond.instanceMethod yX3_weighSets, Cond.selects RX3 yX3_weighSets yX3_weighSets, Cond.code yX3_weighSets cX3_weighSets 7 none, Cond.fieldLink RX3 24 "GraveRows$RowSearch" "costBehind" "[I", Cond.fieldLink RX3 27 "GraveRows$RowSearch" "waysBehind" "[I", Cond.constant RX3 76 (1000000), Cond.methodLink RX3 73 yX3_allGraves, Cond.instanceMethod yX3_allGraves, Cond.selects RX3 yX3_allGraves yX3_allGraves, Cond.code yX3_allGraves cX3_allGraves 1 (some .int), Cond.methodLink RX3 77 yX3_mayFollow, Cond.instanceMethod yX3_mayFollow]
def wsX5_border_r4 : List Cond := [Cond.selects RX3 yX3_mayFollow yX3_mayFollow, Cond.code yX3_mayFollow cX3_mayFollow 3 (some .boolean), Cond.static yX5_isIn, Cond.code yX5_isIn cX5_isIn 2 (some .boolean), Cond.methodLink RX3 81 yX3_costThrough, Cond.instanceMethod yX3_costThrough, Cond.selects RX3 yX3_costThrough yX3_costThrough, Cond.code yX3_costThrough cX3_costThrough 5 (some .int), Cond.methodLink RX3 87 yJ6_bitCount_0f7a4, Cond.static yJ6_bitCount_0f7a4, Cond.initialized RJ6, Cond.code yJ6_bitCount_0f7a4 cJ6_bitCount_0f7a4 1 (some .int), Cond.constant RJ6 265 (1431655765), Cond.constant RJ6 266 (858993459), Cond.constant RJ6 267 (252645135), Cond.methodLink RX3 43 yX3_walkFirstRow, Cond.instanceMethod yX3_walkFirstRow, Cond.selects RX3 yX3_walkFirstRow yX3_walkFirstRow, Cond.code yX3_walkFirstRow cX3_walkFirstRow 4 none, Cond.fieldLink RX3 30 "GraveRows$RowSearch" "row" "[I", Cond.methodLink RX5 217 yX0_choose, Cond.instanceMethod yX0_choose, Cond.selects RX0 yX0_choose yX0_choose, Cond.initialized RX0]
def wsX5_border_r5 : List Cond := [Cond.code yX0_choose cX0_choose 5 none, Cond.fieldLink RX0 19 "GraveRows$RowSearch" "size" "I", Cond.fieldLink RX0 25 "GraveRows$Borders" "size" "I", Cond.fieldLink RX0 26 "GraveRows$Borders" "total" "I", Cond.fieldLink RX0 9 "GraveRows$Borders" "goingOn" "[I", Cond.fieldLink RX0 15 "GraveRows$Borders" "isBorder" "[Z", Cond.methodLink RX0 29 yX3_goingOnAt, Cond.instanceMethod yX3_goingOnAt, Cond.selects RX3 yX3_goingOnAt yX3_goingOnAt, Cond.code yX3_goingOnAt cX3_goingOnAt 4 (some .int), Cond.methodLink RX0 33 yX0_cheapestFree, Cond.instanceMethod yX0_cheapestFree, Cond.selects RX0 yX0_cheapestFree yX0_cheapestFree, Cond.code yX0_cheapestFree cX0_cheapestFree 3 (some .int), Cond.methodLink RX5 224 yX0_beginOf, Cond.instanceMethod yX0_beginOf, Cond.selects RX0 yX0_beginOf yX0_beginOf, Cond.code yX0_beginOf cX0_beginOf 4 (some .int)]
def wsX5_border : List Cond := .code yX5_border cX5_border 4 (some .int) :: ((wsX5_border_r1 ++ (wsX5_border_r2 ++ (wsX5_border_r3 ++ (wsX5_border_r4 ++ wsX5_border_r5)))) ++ wsX50 ++ wsX20 ++ wsX30 ++ wsX10 ++ wsX00)
def wsX5_year_r1 : List Cond := [Cond.fieldLink RX5 12 "GraveRows" "ground" "LGraveRows$Ground;", Cond.constant RX5 47 (-100001), Cond.methodLink RX5 61 yX2_holds, Cond.instanceMethod yX2_holds, Cond.selects RX2 yX2_holds yX2_holds, Cond.initialized RX2, Cond.code yX2_holds cX2_holds 2 (some .boolean), Cond.fieldLink RX2 41 "GraveRows$Ground" "size" "I", Cond.methodLink RX5 48 yX5_finding, Cond.instanceMethod yX5_finding, Cond.selects RX5 yX5_finding yX5_finding, Cond.initialized RX5, Cond.code yX5_finding cX5_finding 2 (some .int), Cond.fieldLink RX5 282 "GraveRows" "findings" "I", Cond.methodLink RX5 227 yX2_latestOf, Cond.instanceMethod yX2_latestOf, Cond.selects RX2 yX2_latestOf yX2_latestOf, Cond.code yX2_latestOf cX2_latestOf 5 (some .int), Cond.fieldLink RX2 11 "GraveRows$Ground" "graves" "[LGraveRows$Grave;", Cond.fieldLink RX2 86 "GraveRows$Grave" "to" "I", Cond.methodLink RX2 89 Lib.Math.min.name, Cond.static Lib.Math.min.name, Cond.initialized "java/lang/Math", Cond.code Lib.Math.min.name Lib.Math.min.code 2 (some .int)]
def wsX5_year_r2 : List Cond := [Cond.methodLink RX2 83 yX2_laterThan, Cond.instanceMethod yX2_laterThan, Cond.selects RX2 yX2_laterThan yX2_laterThan, Cond.code yX2_laterThan cX2_laterThan 3 (some .int), Cond.fieldLink RX2 27 "GraveRows$Ground" "steps" "[I", Cond.methodLink RX2 68 yX2_cuttersOf, Cond.instanceMethod yX2_cuttersOf, Cond.selects RX2 yX2_cuttersOf yX2_cuttersOf, Cond.code yX2_cuttersOf cX2_cuttersOf 4 (some .int), Cond.fieldLink RX2 52 "GraveRows$Grave" "cuts" "I", Cond.static yX5_isIn, Cond.code yX5_isIn cX5_isIn 2 (some .boolean), Cond.methodLink RX2 65 yX2_reachedFrom, Cond.instanceMethod yX2_reachedFrom, Cond.selects RX2 yX2_reachedFrom yX2_reachedFrom, Cond.code yX2_reachedFrom cX2_reachedFrom 6 (some .int), Cond.methodLink RX5 230 yX2_earliestOf, Cond.instanceMethod yX2_earliestOf, Cond.selects RX2 yX2_earliestOf yX2_earliestOf, Cond.code yX2_earliestOf cX2_earliestOf 5 (some .int), Cond.fieldLink RX2 74 "GraveRows$Grave" "from" "I", Cond.methodLink RX2 77 Lib.Math.max.name, Cond.static Lib.Math.max.name, Cond.code Lib.Math.max.name Lib.Math.max.code 2 (some .int)]
def wsX5_year_r3 : List Cond := [Cond.methodLink RX2 71 yX2_earlierThan, Cond.instanceMethod yX2_earlierThan, Cond.selects RX2 yX2_earlierThan yX2_earlierThan, Cond.code yX2_earlierThan cX2_earlierThan 3 (some .int)]
def wsX5_year : List Cond := .code yX5_year cX5_year 3 (some .int) :: ((wsX5_year_r1 ++ (wsX5_year_r2 ++ wsX5_year_r3)) ++ wsX50 ++ wsX20 ++ wsX10)
def wsX5_wrong_r1 : List Cond := [Cond.fieldLink RX5 12 "GraveRows" "ground" "LGraveRows$Ground;", Cond.fieldLink RX5 52 "GraveRows$Ground" "size" "I", Cond.methodLink RX5 230 yX2_earliestOf, Cond.instanceMethod yX2_earliestOf, Cond.selects RX2 yX2_earliestOf yX2_earliestOf, Cond.initialized RX2, Cond.code yX2_earliestOf cX2_earliestOf 5 (some .int), Cond.fieldLink RX2 41 "GraveRows$Ground" "size" "I", Cond.fieldLink RX2 11 "GraveRows$Ground" "graves" "[LGraveRows$Grave;", Cond.fieldLink RX2 74 "GraveRows$Grave" "from" "I", Cond.methodLink RX2 77 Lib.Math.max.name, Cond.static Lib.Math.max.name, Cond.initialized "java/lang/Math", Cond.code Lib.Math.max.name Lib.Math.max.code 2 (some .int), Cond.methodLink RX2 71 yX2_earlierThan, Cond.instanceMethod yX2_earlierThan, Cond.selects RX2 yX2_earlierThan yX2_earlierThan, Cond.code yX2_earlierThan cX2_earlierThan 3 (some .int), Cond.fieldLink RX2 27 "GraveRows$Ground" "steps" "[I", Cond.fieldLink RX2 52 "GraveRows$Grave" "cuts" "I", Cond.methodLink RX2 65 yX2_reachedFrom, Cond.instanceMethod yX2_reachedFrom, Cond.selects RX2 yX2_reachedFrom yX2_reachedFrom, Cond.code yX2_reachedFrom cX2_reachedFrom 6 (some .int)]
def wsX5_wrong_r2 : List Cond := [Cond.static yX5_isIn, Cond.initialized RX5, Cond.code yX5_isIn cX5_isIn 2 (some .boolean), Cond.methodLink RX5 227 yX2_latestOf, Cond.instanceMethod yX2_latestOf, Cond.selects RX2 yX2_latestOf yX2_latestOf, Cond.code yX2_latestOf cX2_latestOf 5 (some .int), Cond.fieldLink RX2 86 "GraveRows$Grave" "to" "I", Cond.methodLink RX2 89 Lib.Math.min.name, Cond.static Lib.Math.min.name, Cond.code Lib.Math.min.name Lib.Math.min.code 2 (some .int), Cond.methodLink RX2 83 yX2_laterThan, Cond.instanceMethod yX2_laterThan, Cond.selects RX2 yX2_laterThan yX2_laterThan, Cond.code yX2_laterThan cX2_laterThan 3 (some .int), Cond.methodLink RX2 68 yX2_cuttersOf, Cond.instanceMethod yX2_cuttersOf, Cond.selects RX2 yX2_cuttersOf yX2_cuttersOf, Cond.code yX2_cuttersOf cX2_cuttersOf 4 (some .int)]
def wsX5_wrong : List Cond := .code yX5_wrong cX5_wrong 2 (some .int) :: ((wsX5_wrong_r1 ++ wsX5_wrong_r2) ++ wsX50 ++ wsX20 ++ wsX10)
def wsX5_in_r1 : List Cond := [Cond.constant RX5 47 (-100001), Cond.fieldLink RX5 12 "GraveRows" "ground" "LGraveRows$Ground;", Cond.fieldLink RX5 52 "GraveRows$Ground" "size" "I", Cond.methodLink RX5 103 yX5_isYear, Cond.static yX5_isYear, Cond.initialized RX5, Cond.code yX5_isYear cX5_isYear 1 (some .boolean), Cond.methodLink RX5 48 yX5_finding, Cond.instanceMethod yX5_finding, Cond.selects RX5 yX5_finding yX5_finding, Cond.code yX5_finding cX5_finding 2 (some .int), Cond.fieldLink RX5 282 "GraveRows" "findings" "I", Cond.methodLink RX5 230 yX2_earliestOf, Cond.instanceMethod yX2_earliestOf, Cond.selects RX2 yX2_earliestOf yX2_earliestOf, Cond.initialized RX2, Cond.code yX2_earliestOf cX2_earliestOf 5 (some .int), Cond.fieldLink RX2 41 "GraveRows$Ground" "size" "I", Cond.fieldLink RX2 11 "GraveRows$Ground" "graves" "[LGraveRows$Grave;", Cond.fieldLink RX2 74 "GraveRows$Grave" "from" "I", Cond.methodLink RX2 77 Lib.Math.max.name, Cond.static Lib.Math.max.name, Cond.initialized "java/lang/Math", Cond.code Lib.Math.max.name Lib.Math.max.code 2 (some .int)]
def wsX5_in_r2 : List Cond := [Cond.methodLink RX2 71 yX2_earlierThan, Cond.instanceMethod yX2_earlierThan, Cond.selects RX2 yX2_earlierThan yX2_earlierThan, Cond.code yX2_earlierThan cX2_earlierThan 3 (some .int), Cond.fieldLink RX2 27 "GraveRows$Ground" "steps" "[I", Cond.fieldLink RX2 52 "GraveRows$Grave" "cuts" "I", Cond.methodLink RX2 65 yX2_reachedFrom, Cond.instanceMethod yX2_reachedFrom, Cond.selects RX2 yX2_reachedFrom yX2_reachedFrom, Cond.code yX2_reachedFrom cX2_reachedFrom 6 (some .int), Cond.static yX5_isIn, Cond.code yX5_isIn cX5_isIn 2 (some .boolean), Cond.methodLink RX5 227 yX2_latestOf, Cond.instanceMethod yX2_latestOf, Cond.selects RX2 yX2_latestOf yX2_latestOf, Cond.code yX2_latestOf cX2_latestOf 5 (some .int), Cond.fieldLink RX2 86 "GraveRows$Grave" "to" "I", Cond.methodLink RX2 89 Lib.Math.min.name, Cond.static Lib.Math.min.name, Cond.code Lib.Math.min.name Lib.Math.min.code 2 (some .int), Cond.methodLink RX2 83 yX2_laterThan, Cond.instanceMethod yX2_laterThan, Cond.selects RX2 yX2_laterThan yX2_laterThan, Cond.code yX2_laterThan cX2_laterThan 3 (some .int)]
def wsX5_in_r3 : List Cond := [Cond.methodLink RX2 68 yX2_cuttersOf, Cond.instanceMethod yX2_cuttersOf, Cond.selects RX2 yX2_cuttersOf yX2_cuttersOf, Cond.code yX2_cuttersOf cX2_cuttersOf 4 (some .int)]
def wsX5_in : List Cond := .code yX5_in cX5_in 4 (some .int) :: ((wsX5_in_r1 ++ (wsX5_in_r2 ++ wsX5_in_r3)) ++ wsX50 ++ wsX20 ++ wsX10)
def wsX5_used_r1 : List Cond := [Cond.constant RX5 47 (-100001), Cond.fieldLink RX5 12 "GraveRows" "ground" "LGraveRows$Ground;", Cond.constant RX5 125 (-100006), Cond.methodLink RX5 183 yX5_isGood, Cond.static yX5_isGood, Cond.initialized RX5, Cond.code yX5_isGood cX5_isGood 1 (some .boolean), Cond.methodLink RX5 48 yX5_finding, Cond.instanceMethod yX5_finding, Cond.selects RX5 yX5_finding yX5_finding, Cond.code yX5_finding cX5_finding 2 (some .int), Cond.fieldLink RX5 282 "GraveRows" "findings" "I", Cond.methodLink RX5 189 yX2_havers, Cond.instanceMethod yX2_havers, Cond.selects RX2 yX2_havers yX2_havers, Cond.initialized RX2, Cond.code yX2_havers cX2_havers 4 (some .int), Cond.fieldLink RX2 41 "GraveRows$Ground" "size" "I", Cond.fieldLink RX2 11 "GraveRows$Ground" "graves" "[LGraveRows$Grave;", Cond.fieldLink RX2 98 "GraveRows$Grave" "goods" "I", Cond.static yX5_isIn, Cond.code yX5_isIn cX5_isIn 2 (some .boolean), Cond.methodLink RX5 233 yX2_greatestLatest, Cond.instanceMethod yX2_greatestLatest]
def wsX5_used_r2 : List Cond := [Cond.selects RX2 yX2_greatestLatest yX2_greatestLatest, Cond.code yX2_greatestLatest cX2_greatestLatest 4 (some .int), Cond.methodLink RX2 77 Lib.Math.max.name, Cond.static Lib.Math.max.name, Cond.initialized "java/lang/Math", Cond.code Lib.Math.max.name Lib.Math.max.code 2 (some .int), Cond.methodLink RX2 95 yX2_latestOf, Cond.instanceMethod yX2_latestOf, Cond.selects RX2 yX2_latestOf yX2_latestOf, Cond.code yX2_latestOf cX2_latestOf 5 (some .int), Cond.fieldLink RX2 86 "GraveRows$Grave" "to" "I", Cond.methodLink RX2 89 Lib.Math.min.name, Cond.static Lib.Math.min.name, Cond.code Lib.Math.min.name Lib.Math.min.code 2 (some .int), Cond.methodLink RX2 83 yX2_laterThan, Cond.instanceMethod yX2_laterThan, Cond.selects RX2 yX2_laterThan yX2_laterThan, Cond.code yX2_laterThan cX2_laterThan 3 (some .int), Cond.fieldLink RX2 27 "GraveRows$Ground" "steps" "[I", Cond.methodLink RX2 68 yX2_cuttersOf, Cond.instanceMethod yX2_cuttersOf, Cond.selects RX2 yX2_cuttersOf yX2_cuttersOf, Cond.code yX2_cuttersOf cX2_cuttersOf 4 (some .int), Cond.fieldLink RX2 52 "GraveRows$Grave" "cuts" "I"]
def wsX5_used_r3 : List Cond := [Cond.methodLink RX2 65 yX2_reachedFrom, Cond.instanceMethod yX2_reachedFrom, Cond.selects RX2 yX2_reachedFrom yX2_reachedFrom, Cond.code yX2_reachedFrom cX2_reachedFrom 6 (some .int), Cond.methodLink RX5 236 yX2_leastEarliest, Cond.instanceMethod yX2_leastEarliest, Cond.selects RX2 yX2_leastEarliest yX2_leastEarliest, Cond.code yX2_leastEarliest cX2_leastEarliest 4 (some .int), Cond.methodLink RX2 92 yX2_earliestOf, Cond.instanceMethod yX2_earliestOf, Cond.selects RX2 yX2_earliestOf yX2_earliestOf, Cond.code yX2_earliestOf cX2_earliestOf 5 (some .int), Cond.fieldLink RX2 74 "GraveRows$Grave" "from" "I", Cond.methodLink RX2 71 yX2_earlierThan, Cond.instanceMethod yX2_earlierThan, Cond.selects RX2 yX2_earlierThan yX2_earlierThan, Cond.code yX2_earlierThan cX2_earlierThan 3 (some .int)]
def wsX5_used : List Cond := .code yX5_used cX5_used 4 (some .int) :: ((wsX5_used_r1 ++ (wsX5_used_r2 ++ wsX5_used_r3)) ++ wsX50 ++ wsX20 ++ wsX10)
def wsX5_family_r1 : List Cond := [Cond.fieldLink RX5 12 "GraveRows" "ground" "LGraveRows$Ground;", Cond.constant RX5 47 (-100001), Cond.methodLink RX5 61 yX2_holds, Cond.instanceMethod yX2_holds, Cond.selects RX2 yX2_holds yX2_holds, Cond.initialized RX2, Cond.code yX2_holds cX2_holds 2 (some .boolean), Cond.fieldLink RX2 41 "GraveRows$Ground" "size" "I", Cond.methodLink RX5 44 yX5_isDistance, Cond.static yX5_isDistance, Cond.initialized RX5, Cond.code yX5_isDistance cX5_isDistance 1 (some .boolean), Cond.methodLink RX5 48 yX5_finding, Cond.instanceMethod yX5_finding, Cond.selects RX5 yX5_finding yX5_finding, Cond.code yX5_finding cX5_finding 2 (some .int), Cond.fieldLink RX5 282 "GraveRows" "findings" "I", Cond.methodLink RX5 239 yX2_familyOf, Cond.instanceMethod yX2_familyOf, Cond.selects RX2 yX2_familyOf yX2_familyOf, Cond.code yX2_familyOf cX2_familyOf 5 (some .int), Cond.fieldLink RX2 27 "GraveRows$Ground" "steps" "[I", Cond.methodLink RX2 109 yX2_neighboursOf, Cond.instanceMethod yX2_neighboursOf]
def wsX5_family_r2 : List Cond := [Cond.selects RX2 yX2_neighboursOf yX2_neighboursOf, Cond.code yX2_neighboursOf cX2_neighboursOf 5 (some .int), Cond.fieldLink RX2 11 "GraveRows$Ground" "graves" "[LGraveRows$Grave;", Cond.methodLink RX2 112 yX1_isWithin, Cond.instanceMethod yX1_isWithin, Cond.selects RX1 yX1_isWithin yX1_isWithin, Cond.initialized RX1, Cond.code yX1_isWithin cX1_isWithin 3 (some .boolean), Cond.fieldLink RX1 15 "GraveRows$Grave" "x" "I", Cond.methodLink RX1 47 Lib.Math.abs.name, Cond.static Lib.Math.abs.name, Cond.initialized "java/lang/Math", Cond.code Lib.Math.abs.name Lib.Math.abs.code 1 (some .int), Cond.fieldLink RX1 18 "GraveRows$Grave" "y" "I", Cond.methodLink RX2 65 yX2_reachedFrom, Cond.instanceMethod yX2_reachedFrom, Cond.selects RX2 yX2_reachedFrom yX2_reachedFrom, Cond.code yX2_reachedFrom cX2_reachedFrom 6 (some .int), Cond.static yX5_isIn, Cond.code yX5_isIn cX5_isIn 2 (some .boolean)]
def wsX5_family : List Cond := .code yX5_family cX5_family 3 (some .int) :: ((wsX5_family_r1 ++ wsX5_family_r2) ++ wsX50 ++ wsX20 ++ wsX10)
def wsX5_families_r1 : List Cond := [Cond.constant RX5 47 (-100001), Cond.fieldLink RX5 12 "GraveRows" "ground" "LGraveRows$Ground;", Cond.fieldLink RX5 52 "GraveRows$Ground" "size" "I", Cond.methodLink RX5 44 yX5_isDistance, Cond.static yX5_isDistance, Cond.initialized RX5, Cond.code yX5_isDistance cX5_isDistance 1 (some .boolean), Cond.methodLink RX5 48 yX5_finding, Cond.instanceMethod yX5_finding, Cond.selects RX5 yX5_finding yX5_finding, Cond.code yX5_finding cX5_finding 2 (some .int), Cond.fieldLink RX5 282 "GraveRows" "findings" "I", Cond.methodLink RX5 239 yX2_familyOf, Cond.instanceMethod yX2_familyOf, Cond.selects RX2 yX2_familyOf yX2_familyOf, Cond.initialized RX2, Cond.code yX2_familyOf cX2_familyOf 5 (some .int), Cond.fieldLink RX2 41 "GraveRows$Ground" "size" "I", Cond.fieldLink RX2 27 "GraveRows$Ground" "steps" "[I", Cond.methodLink RX2 109 yX2_neighboursOf, Cond.instanceMethod yX2_neighboursOf, Cond.selects RX2 yX2_neighboursOf yX2_neighboursOf, Cond.code yX2_neighboursOf cX2_neighboursOf 5 (some .int), Cond.fieldLink RX2 11 "GraveRows$Ground" "graves" "[LGraveRows$Grave;"]
def wsX5_families_r2 : List Cond := [Cond.methodLink RX2 112 yX1_isWithin, Cond.instanceMethod yX1_isWithin, Cond.selects RX1 yX1_isWithin yX1_isWithin, Cond.initialized RX1, Cond.code yX1_isWithin cX1_isWithin 3 (some .boolean), Cond.fieldLink RX1 15 "GraveRows$Grave" "x" "I", Cond.methodLink RX1 47 Lib.Math.abs.name, Cond.static Lib.Math.abs.name, Cond.initialized "java/lang/Math", Cond.code Lib.Math.abs.name Lib.Math.abs.code 1 (some .int), Cond.fieldLink RX1 18 "GraveRows$Grave" "y" "I", Cond.methodLink RX2 65 yX2_reachedFrom, Cond.instanceMethod yX2_reachedFrom, Cond.selects RX2 yX2_reachedFrom yX2_reachedFrom, Cond.code yX2_reachedFrom cX2_reachedFrom 6 (some .int), Cond.static yX5_isIn, Cond.code yX5_isIn cX5_isIn 2 (some .boolean)]
def wsX5_families : List Cond := .code yX5_families cX5_families 4 (some .int) :: ((wsX5_families_r1 ++ wsX5_families_r2) ++ wsX50 ++ wsX20 ++ wsX10)
def wsX5_commonDivisor : List Cond := .code yX5_commonDivisor cX5_commonDivisor 3 (some .int) :: ([])
def wsX5_like_r1 : List Cond := [Cond.fieldLink RX5 12 "GraveRows" "ground" "LGraveRows$Ground;", Cond.constant RX5 47 (-100001), Cond.methodLink RX5 61 yX2_holds, Cond.instanceMethod yX2_holds, Cond.selects RX2 yX2_holds yX2_holds, Cond.initialized RX2, Cond.code yX2_holds cX2_holds 2 (some .boolean), Cond.fieldLink RX2 41 "GraveRows$Ground" "size" "I", Cond.methodLink RX5 48 yX5_finding, Cond.instanceMethod yX5_finding, Cond.selects RX5 yX5_finding yX5_finding, Cond.initialized RX5, Cond.code yX5_finding cX5_finding 2 (some .int), Cond.fieldLink RX5 282 "GraveRows" "findings" "I", Cond.methodLink RX5 242 yX2_sharedGoods, Cond.instanceMethod yX2_sharedGoods, Cond.selects RX2 yX2_sharedGoods yX2_sharedGoods, Cond.code yX2_sharedGoods cX2_sharedGoods 3 (some .int), Cond.fieldLink RX2 11 "GraveRows$Ground" "graves" "[LGraveRows$Grave;", Cond.fieldLink RX2 98 "GraveRows$Grave" "goods" "I", Cond.methodLink RX2 55 yJ6_bitCount_0f7a4, Cond.static yJ6_bitCount_0f7a4, Cond.initialized RJ6, Cond.code yJ6_bitCount_0f7a4 cJ6_bitCount_0f7a4 1 (some .int)]
def wsX5_like_r2 : List Cond := [Cond.constant RJ6 265 (1431655765), Cond.constant RJ6 266 (858993459), Cond.constant RJ6 267 (252645135), Cond.methodLink RX5 245 yX2_joinedGoods, Cond.instanceMethod yX2_joinedGoods, Cond.selects RX2 yX2_joinedGoods yX2_joinedGoods, Cond.code yX2_joinedGoods cX2_joinedGoods 3 (some .int), Cond.methodLink RX2 77 Lib.Math.max.name, Cond.static Lib.Math.max.name, Cond.initialized "java/lang/Math", Cond.code Lib.Math.max.name Lib.Math.max.code 2 (some .int), Cond.methodLink RX5 248 yX5_commonDivisor, Cond.static yX5_commonDivisor, Cond.code yX5_commonDivisor cX5_commonDivisor 3 (some .int)]
def wsX5_like : List Cond := .code yX5_like cX5_like 7 (some .int) :: ((wsX5_like_r1 ++ wsX5_like_r2) ++ wsX50 ++ wsX20 ++ wsX10)
def wsX5_nearest_r1 : List Cond := [Cond.fieldLink RX5 12 "GraveRows" "ground" "LGraveRows$Ground;", Cond.constant RX5 47 (-100001), Cond.fieldLink RX5 52 "GraveRows$Ground" "size" "I", Cond.constant RX5 125 (-100006), Cond.methodLink RX5 61 yX2_holds, Cond.instanceMethod yX2_holds, Cond.selects RX2 yX2_holds yX2_holds, Cond.initialized RX2, Cond.code yX2_holds cX2_holds 2 (some .boolean), Cond.fieldLink RX2 41 "GraveRows$Ground" "size" "I", Cond.methodLink RX5 48 yX5_finding, Cond.instanceMethod yX5_finding, Cond.selects RX5 yX5_finding yX5_finding, Cond.initialized RX5, Cond.code yX5_finding cX5_finding 2 (some .int), Cond.fieldLink RX5 282 "GraveRows" "findings" "I", Cond.methodLink RX5 251 yX2_mostLike, Cond.instanceMethod yX2_mostLike, Cond.selects RX2 yX2_mostLike yX2_mostLike, Cond.code yX2_mostLike cX2_mostLike 8 (some .int), Cond.methodLink RX2 116 yX2_sharedGoods, Cond.instanceMethod yX2_sharedGoods, Cond.selects RX2 yX2_sharedGoods yX2_sharedGoods, Cond.code yX2_sharedGoods cX2_sharedGoods 3 (some .int)]
def wsX5_nearest_r2 : List Cond := [Cond.fieldLink RX2 11 "GraveRows$Ground" "graves" "[LGraveRows$Grave;", Cond.fieldLink RX2 98 "GraveRows$Grave" "goods" "I", Cond.methodLink RX2 55 yJ6_bitCount_0f7a4, Cond.static yJ6_bitCount_0f7a4, Cond.initialized RJ6, Cond.code yJ6_bitCount_0f7a4 cJ6_bitCount_0f7a4 1 (some .int), Cond.constant RJ6 265 (1431655765), Cond.constant RJ6 266 (858993459), Cond.constant RJ6 267 (252645135), Cond.methodLink RX2 119 yX2_joinedGoods, Cond.instanceMethod yX2_joinedGoods, Cond.selects RX2 yX2_joinedGoods yX2_joinedGoods, Cond.code yX2_joinedGoods cX2_joinedGoods 3 (some .int), Cond.methodLink RX2 77 Lib.Math.max.name, Cond.static Lib.Math.max.name, Cond.initialized "java/lang/Math", Cond.code Lib.Math.max.name Lib.Math.max.code 2 (some .int)]
def wsX5_nearest : List Cond := .code yX5_nearest cX5_nearest 2 (some .int) :: ((wsX5_nearest_r1 ++ wsX5_nearest_r2) ++ wsX50 ++ wsX20 ++ wsX10)
def wsX5_isMark : List Cond := .code yX5_isMark cX5_isMark 1 (some .boolean) :: ([])
def wsX5_mark_r1 : List Cond := [Cond.fieldLink RX5 12 "GraveRows" "ground" "LGraveRows$Ground;", Cond.constant RX5 47 (-100001), Cond.fieldLink RX5 64 "GraveRows$Ground" "graves" "[LGraveRows$Grave;", Cond.methodLink RX5 61 yX2_holds, Cond.instanceMethod yX2_holds, Cond.selects RX2 yX2_holds yX2_holds, Cond.initialized RX2, Cond.code yX2_holds cX2_holds 2 (some .boolean), Cond.fieldLink RX2 41 "GraveRows$Ground" "size" "I", Cond.methodLink RX5 254 yX5_isMark, Cond.static yX5_isMark, Cond.initialized RX5, Cond.code yX5_isMark cX5_isMark 1 (some .boolean), Cond.methodLink RX5 48 yX5_finding, Cond.instanceMethod yX5_finding, Cond.selects RX5 yX5_finding yX5_finding, Cond.code yX5_finding cX5_finding 2 (some .int), Cond.fieldLink RX5 282 "GraveRows" "findings" "I", Cond.methodLink RX5 257 yX1_setMark, Cond.instanceMethod yX1_setMark, Cond.selects RX1 yX1_setMark yX1_setMark, Cond.initialized RX1, Cond.code yX1_setMark cX1_setMark 5 (some .boolean), Cond.fieldLink RX1 33 "GraveRows$Grave" "marksTold" "I"]
def wsX5_mark_r2 : List Cond := [Cond.fieldLink RX1 36 "GraveRows$Grave" "marksOfMan" "I"]
def wsX5_mark : List Cond := .code yX5_mark cX5_mark 4 (some .int) :: ((wsX5_mark_r1 ++ wsX5_mark_r2) ++ wsX50 ++ wsX20 ++ wsX10)
def wsX5_weigh : List Cond := .code yX5_weigh cX5_weigh 6 (some .int) :: ([.constant RX5 47 (-100001), .fieldLink RX5 12 "GraveRows" "ground" "LGraveRows$Ground;", .methodLink RX5 254 yX5_isMark, .static yX5_isMark, .initialized RX5, .code yX5_isMark cX5_isMark 1 (some .boolean), .methodLink RX5 48 yX5_finding, .instanceMethod yX5_finding, .selects RX5 yX5_finding yX5_finding, .code yX5_finding cX5_finding 2 (some .int), .fieldLink RX5 282 "GraveRows" "findings" "I", .methodLink RX5 261 yX2_weightsFor, .instanceMethod yX2_weightsFor, .selects RX2 yX2_weightsFor yX2_weightsFor, .initialized RX2, .code yX2_weightsFor cX2_weightsFor 2 (some (.array .int)), .fieldLink RX2 17 "GraveRows$Ground" "weightsOfMan" "[I", .fieldLink RX2 21 "GraveRows$Ground" "weightsOfWoman" "[I"] ++ wsX50 ++ wsX20)
def wsX5_share_r1 : List Cond := [Cond.fieldLink RX5 12 "GraveRows" "ground" "LGraveRows$Ground;", Cond.constant RX5 47 (-100001), Cond.fieldLink RX5 64 "GraveRows$Ground" "graves" "[LGraveRows$Grave;", Cond.constant RX5 73 (-100004), Cond.methodLink RX5 61 yX2_holds, Cond.instanceMethod yX2_holds, Cond.selects RX2 yX2_holds yX2_holds, Cond.initialized RX2, Cond.code yX2_holds cX2_holds 2 (some .boolean), Cond.fieldLink RX2 41 "GraveRows$Ground" "size" "I", Cond.methodLink RX5 48 yX5_finding, Cond.instanceMethod yX5_finding, Cond.selects RX5 yX5_finding yX5_finding, Cond.initialized RX5, Cond.code yX5_finding cX5_finding 2 (some .int), Cond.fieldLink RX5 282 "GraveRows" "findings" "I", Cond.methodLink RX5 68 yX1_isOfKind, Cond.instanceMethod yX1_isOfKind, Cond.selects RX1 yX1_isOfKind yX1_isOfKind, Cond.initialized RX1, Cond.code yX1_isOfKind cX1_isOfKind 4 (some .boolean), Cond.fieldLink RX1 9 "GraveRows$Grave" "kind" "I", Cond.fieldLink RX1 39 "GraveRows$Grave" "KIND_ABOVE" "[I", Cond.methodLink RX5 265 yX2_productOfMarks]
def wsX5_share_r2 : List Cond := [Cond.instanceMethod yX2_productOfMarks, Cond.selects RX2 yX2_productOfMarks yX2_productOfMarks, Cond.code yX2_productOfMarks cX2_productOfMarks 9 (some .long), Cond.fieldLink RX2 11 "GraveRows$Ground" "graves" "[LGraveRows$Grave;", Cond.fieldLink RX2 126 "GraveRows$Grave" "marksTold" "I", Cond.fieldLink RX2 129 "GraveRows$Grave" "marksOfMan" "I", Cond.methodLink RX2 122 yX2_weightsFor, Cond.instanceMethod yX2_weightsFor, Cond.selects RX2 yX2_weightsFor yX2_weightsFor, Cond.code yX2_weightsFor cX2_weightsFor 2 (some (.array .int)), Cond.fieldLink RX2 17 "GraveRows$Ground" "weightsOfMan" "[I", Cond.fieldLink RX2 21 "GraveRows$Ground" "weightsOfWoman" "[I", Cond.static yX5_isIn, Cond.code yX5_isIn cX5_isIn 2 (some .boolean)]
def wsX5_share : List Cond := .code yX5_share cX5_share 3 (some .long) :: ((wsX5_share_r1 ++ wsX5_share_r2) ++ wsX50 ++ wsX20 ++ wsX10)
def wsX5_people_r1 : List Cond := [Cond.constant RX5 47 (-100001), Cond.fieldLink RX5 12 "GraveRows" "ground" "LGraveRows$Ground;", Cond.fieldLink RX5 52 "GraveRows$Ground" "size" "I", Cond.methodLink RX5 48 yX5_finding, Cond.instanceMethod yX5_finding, Cond.selects RX5 yX5_finding yX5_finding, Cond.initialized RX5, Cond.code yX5_finding cX5_finding 2 (some .int), Cond.fieldLink RX5 282 "GraveRows" "findings" "I", Cond.methodLink RX5 269 yX2_whose, Cond.instanceMethod yX2_whose, Cond.selects RX2 yX2_whose yX2_whose, Cond.initialized RX2, Cond.code yX2_whose cX2_whose 6 (some .int), Cond.fieldLink RX2 11 "GraveRows$Ground" "graves" "[LGraveRows$Grave;", Cond.methodLink RX2 132 yX1_isOfKind, Cond.instanceMethod yX1_isOfKind, Cond.selects RX1 yX1_isOfKind yX1_isOfKind, Cond.initialized RX1, Cond.code yX1_isOfKind cX1_isOfKind 4 (some .boolean), Cond.fieldLink RX1 9 "GraveRows$Grave" "kind" "I", Cond.fieldLink RX1 39 "GraveRows$Grave" "KIND_ABOVE" "[I", Cond.methodLink RX2 135 yX2_productOfMarks, Cond.instanceMethod yX2_productOfMarks]
def wsX5_people_r2 : List Cond := [Cond.selects RX2 yX2_productOfMarks yX2_productOfMarks, Cond.code yX2_productOfMarks cX2_productOfMarks 9 (some .long), Cond.fieldLink RX2 126 "GraveRows$Grave" "marksTold" "I", Cond.fieldLink RX2 129 "GraveRows$Grave" "marksOfMan" "I", Cond.methodLink RX2 122 yX2_weightsFor, Cond.instanceMethod yX2_weightsFor, Cond.selects RX2 yX2_weightsFor yX2_weightsFor, Cond.code yX2_weightsFor cX2_weightsFor 2 (some (.array .int)), Cond.fieldLink RX2 17 "GraveRows$Ground" "weightsOfMan" "[I", Cond.fieldLink RX2 21 "GraveRows$Ground" "weightsOfWoman" "[I", Cond.static yX5_isIn, Cond.code yX5_isIn cX5_isIn 2 (some .boolean)]
def wsX5_people : List Cond := .code yX5_people cX5_people 4 (some .int) :: ((wsX5_people_r1 ++ wsX5_people_r2) ++ wsX50 ++ wsX20 ++ wsX10)
def wsX5_keep_r1 : List Cond := [Cond.fieldLink RX5 16 "GraveRows" "kept" "LGraveRows$Ground;", Cond.fieldLink RX5 12 "GraveRows" "ground" "LGraveRows$Ground;", Cond.fieldLink RX5 275 "GraveRows" "isKept" "Z", Cond.fieldLink RX5 52 "GraveRows$Ground" "size" "I", Cond.methodLink RX5 272 yX2_become, Cond.instanceMethod yX2_become, Cond.selects RX2 yX2_become yX2_become, Cond.initialized RX2, Cond.code yX2_become cX2_become 3 none, Cond.fieldLink RX2 11 "GraveRows$Ground" "graves" "[LGraveRows$Grave;", Cond.fieldLink RX2 17 "GraveRows$Ground" "weightsOfMan" "[I", Cond.methodLink RX2 35 arraycopyName, Cond.native arraycopyName, Cond.static arraycopyName, Cond.initialized "java/lang/System", Cond.fieldLink RX2 21 "GraveRows$Ground" "weightsOfWoman" "[I", Cond.fieldLink RX2 24 "GraveRows$Ground" "waiting" "[I", Cond.fieldLink RX2 41 "GraveRows$Ground" "size" "I", Cond.fieldLink RX2 45 "GraveRows$Ground" "waits" "I", Cond.methodLink RX2 31 yX1_become, Cond.instanceMethod yX1_become, Cond.selects RX1 yX1_become yX1_become, Cond.initialized RX1, Cond.code yX1_become cX1_become 2 none]
def wsX5_keep_r2 : List Cond := [Cond.fieldLink RX1 9 "GraveRows$Grave" "kind" "I", Cond.fieldLink RX1 15 "GraveRows$Grave" "x" "I", Cond.fieldLink RX1 18 "GraveRows$Grave" "y" "I", Cond.fieldLink RX1 21 "GraveRows$Grave" "goods" "I", Cond.fieldLink RX1 24 "GraveRows$Grave" "from" "I", Cond.fieldLink RX1 27 "GraveRows$Grave" "to" "I", Cond.fieldLink RX1 30 "GraveRows$Grave" "cuts" "I", Cond.fieldLink RX1 33 "GraveRows$Grave" "marksTold" "I", Cond.fieldLink RX1 36 "GraveRows$Grave" "marksOfMan" "I"]
def wsX5_keep : List Cond := .code yX5_keep cX5_keep 1 (some .int) :: ((wsX5_keep_r1 ++ wsX5_keep_r2) ++ wsX50 ++ wsX20 ++ wsX10)
def wsX5_back_r1 : List Cond := [Cond.fieldLink RX5 275 "GraveRows" "isKept" "Z", Cond.constant RX5 125 (-100006), Cond.fieldLink RX5 12 "GraveRows" "ground" "LGraveRows$Ground;", Cond.fieldLink RX5 16 "GraveRows" "kept" "LGraveRows$Ground;", Cond.fieldLink RX5 52 "GraveRows$Ground" "size" "I", Cond.methodLink RX5 48 yX5_finding, Cond.instanceMethod yX5_finding, Cond.selects RX5 yX5_finding yX5_finding, Cond.initialized RX5, Cond.code yX5_finding cX5_finding 2 (some .int), Cond.fieldLink RX5 282 "GraveRows" "findings" "I", Cond.methodLink RX5 272 yX2_become, Cond.instanceMethod yX2_become, Cond.selects RX2 yX2_become yX2_become, Cond.initialized RX2, Cond.code yX2_become cX2_become 3 none, Cond.fieldLink RX2 11 "GraveRows$Ground" "graves" "[LGraveRows$Grave;", Cond.fieldLink RX2 17 "GraveRows$Ground" "weightsOfMan" "[I", Cond.methodLink RX2 35 arraycopyName, Cond.native arraycopyName, Cond.static arraycopyName, Cond.initialized "java/lang/System", Cond.fieldLink RX2 21 "GraveRows$Ground" "weightsOfWoman" "[I", Cond.fieldLink RX2 24 "GraveRows$Ground" "waiting" "[I"]
def wsX5_back_r2 : List Cond := [Cond.fieldLink RX2 41 "GraveRows$Ground" "size" "I", Cond.fieldLink RX2 45 "GraveRows$Ground" "waits" "I", Cond.methodLink RX2 31 yX1_become, Cond.instanceMethod yX1_become, Cond.selects RX1 yX1_become yX1_become, Cond.initialized RX1, Cond.code yX1_become cX1_become 2 none, Cond.fieldLink RX1 9 "GraveRows$Grave" "kind" "I", Cond.fieldLink RX1 15 "GraveRows$Grave" "x" "I", Cond.fieldLink RX1 18 "GraveRows$Grave" "y" "I", Cond.fieldLink RX1 21 "GraveRows$Grave" "goods" "I", Cond.fieldLink RX1 24 "GraveRows$Grave" "from" "I", Cond.fieldLink RX1 27 "GraveRows$Grave" "to" "I", Cond.fieldLink RX1 30 "GraveRows$Grave" "cuts" "I", Cond.fieldLink RX1 33 "GraveRows$Grave" "marksTold" "I", Cond.fieldLink RX1 36 "GraveRows$Grave" "marksOfMan" "I"]
def wsX5_back : List Cond := .code yX5_back cX5_back 1 (some .int) :: ((wsX5_back_r1 ++ wsX5_back_r2) ++ wsX50 ++ wsX20 ++ wsX10)
def wsX5_told_r1 : List Cond := [Cond.fieldLink RX5 12 "GraveRows" "ground" "LGraveRows$Ground;", Cond.fieldLink RX5 52 "GraveRows$Ground" "size" "I", Cond.fieldLink RX5 282 "GraveRows" "findings" "I", Cond.fieldLink RX5 198 "GraveRows$Ground" "waits" "I", Cond.constant RX5 47 (-100001), Cond.methodLink RX5 279 yX2_countCuts, Cond.instanceMethod yX2_countCuts, Cond.selects RX2 yX2_countCuts yX2_countCuts, Cond.initialized RX2, Cond.code yX2_countCuts cX2_countCuts 3 (some .int), Cond.fieldLink RX2 41 "GraveRows$Ground" "size" "I", Cond.fieldLink RX2 11 "GraveRows$Ground" "graves" "[LGraveRows$Grave;", Cond.fieldLink RX2 52 "GraveRows$Grave" "cuts" "I", Cond.methodLink RX2 55 yJ6_bitCount_0f7a4, Cond.static yJ6_bitCount_0f7a4, Cond.initialized RJ6, Cond.code yJ6_bitCount_0f7a4 cJ6_bitCount_0f7a4 1 (some .int), Cond.constant RJ6 265 (1431655765), Cond.constant RJ6 266 (858993459), Cond.constant RJ6 267 (252645135), Cond.methodLink RX5 48 yX5_finding, Cond.instanceMethod yX5_finding, Cond.selects RX5 yX5_finding yX5_finding, Cond.initialized RX5]
def wsX5_told_r2 : List Cond := [Cond.code yX5_finding cX5_finding 2 (some .int)]
def wsX5_told : List Cond := .code yX5_told cX5_told 2 (some .int) :: ((wsX5_told_r1 ++ wsX5_told_r2) ++ wsX50 ++ wsX20 ++ wsX10)
def wsX6_init : List Cond := .code yX6_init cX6_init 2 none :: ([.methodLink RX6 3 objectInit, .instanceMethod objectInit, .code objectInit ⟨#[0xb1]⟩ 1 none, .arrayClass .int, .fieldLink RX6 9 "GraveRowsModel" "now" "[I", .fieldLink RX6 13 "GraveRowsModel" "kept" "[I", .fieldLink RX6 16 "GraveRowsModel" "bits" "[I", .fieldLink RX6 19 "GraveRowsModel" "sizes" "[I", .fieldLink RX6 22 "GraveRowsModel" "sheets" "[I", .fieldLink RX6 25 "GraveRowsModel" "carried" "[I", .fieldLink RX6 28 "GraveRowsModel" "best" "[I", .fieldLink RX6 31 "GraveRowsModel" "row" "[I", .fieldLink RX6 34 "GraveRowsModel" "costs" "[I", .fieldLink RX6 37 "GraveRowsModel" "tried" "[I"] ++ wsX60)
def wsX6_finding : List Cond := .code yX6_finding cX6_finding 2 (some .int) :: ([.fieldLink RX6 40 "GraveRowsModel" "findings" "I"] ++ wsX60)
def wsX6_within : List Cond := .code yX6_within cX6_within 3 (some .boolean) :: ([])
def wsX6_isGrave : List Cond := .code yX6_isGrave cX6_isGrave 2 (some .boolean) :: ([.fieldLink RX6 9 "GraveRowsModel" "now" "[I", .methodLink RX6 44 yX6_within, .static yX6_within, .initialized RX6, .code yX6_within cX6_within 3 (some .boolean)] ++ wsX60)
def wsX6_isGood : List Cond := .code yX6_isGood cX6_isGood 1 (some .boolean) :: ([.methodLink RX6 44 yX6_within, .static yX6_within, .initialized RX6, .code yX6_within cX6_within 3 (some .boolean)])
def wsX6_many : List Cond := .code yX6_many cX6_many 3 (some .int) :: ([])
def wsX6_grave : List Cond := .code yX6_grave cX6_grave 5 (some .int) :: ([.constant RX6 48 (-100001), .fieldLink RX6 9 "GraveRowsModel" "now" "[I", .constant RX6 53 (-100005), .methodLink RX6 44 yX6_within, .static yX6_within, .initialized RX6, .code yX6_within cX6_within 3 (some .boolean), .methodLink RX6 49 yX6_finding, .instanceMethod yX6_finding, .selects RX6 yX6_finding yX6_finding, .code yX6_finding cX6_finding 2 (some .int), .fieldLink RX6 40 "GraveRowsModel" "findings" "I"] ++ wsX60)
def wsX6_as : List Cond := .code yX6_as cX6_as 4 (some .int) :: ([.constant RX6 48 (-100001), .fieldLink RX6 9 "GraveRowsModel" "now" "[I", .constant RX6 58 (-100004), .methodLink RX6 54 yX6_isGrave, .instanceMethod yX6_isGrave, .selects RX6 yX6_isGrave yX6_isGrave, .initialized RX6, .code yX6_isGrave cX6_isGrave 2 (some .boolean), .methodLink RX6 44 yX6_within, .static yX6_within, .code yX6_within cX6_within 3 (some .boolean), .methodLink RX6 49 yX6_finding, .instanceMethod yX6_finding, .selects RX6 yX6_finding yX6_finding, .code yX6_finding cX6_finding 2 (some .int), .fieldLink RX6 40 "GraveRowsModel" "findings" "I"] ++ wsX60)
def wsX6_goods : List Cond := .code yX6_goods cX6_goods 4 (some .int) :: ([.constant RX6 48 (-100001), .fieldLink RX6 9 "GraveRowsModel" "now" "[I", .methodLink RX6 54 yX6_isGrave, .instanceMethod yX6_isGrave, .selects RX6 yX6_isGrave yX6_isGrave, .initialized RX6, .code yX6_isGrave cX6_isGrave 2 (some .boolean), .methodLink RX6 44 yX6_within, .static yX6_within, .code yX6_within cX6_within 3 (some .boolean), .methodLink RX6 49 yX6_finding, .instanceMethod yX6_finding, .selects RX6 yX6_finding yX6_finding, .code yX6_finding cX6_finding 2 (some .int), .fieldLink RX6 40 "GraveRowsModel" "findings" "I"] ++ wsX60)
def wsX6_doesCut : List Cond := .code yX6_doesCut cX6_doesCut 3 (some .boolean) :: ([.fieldLink RX6 9 "GraveRowsModel" "now" "[I"] ++ wsX60)
def wsX6_cutBy : List Cond := .code yX6_cutBy cX6_cutBy 4 (some .int) :: ([.fieldLink RX6 9 "GraveRowsModel" "now" "[I", .methodLink RX6 59 yX6_doesCut, .instanceMethod yX6_doesCut, .selects RX6 yX6_doesCut yX6_doesCut, .initialized RX6, .code yX6_doesCut cX6_doesCut 3 (some .boolean)] ++ wsX60)
def wsX6_of_r1 : List Cond := [Cond.constant RX6 48 (-100001), Cond.fieldLink RX6 9 "GraveRowsModel" "now" "[I", Cond.methodLink RX6 54 yX6_isGrave, Cond.instanceMethod yX6_isGrave, Cond.selects RX6 yX6_isGrave yX6_isGrave, Cond.initialized RX6, Cond.code yX6_isGrave cX6_isGrave 2 (some .boolean), Cond.methodLink RX6 44 yX6_within, Cond.static yX6_within, Cond.code yX6_within cX6_within 3 (some .boolean), Cond.methodLink RX6 49 yX6_finding, Cond.instanceMethod yX6_finding, Cond.selects RX6 yX6_finding yX6_finding, Cond.code yX6_finding cX6_finding 2 (some .int), Cond.fieldLink RX6 40 "GraveRowsModel" "findings" "I", Cond.methodLink RX6 63 yX6_many, Cond.static yX6_many, Cond.code yX6_many cX6_many 3 (some .int), Cond.methodLink RX6 66 yX6_cutBy, Cond.instanceMethod yX6_cutBy, Cond.selects RX6 yX6_cutBy yX6_cutBy, Cond.code yX6_cutBy cX6_cutBy 4 (some .int), Cond.methodLink RX6 59 yX6_doesCut, Cond.instanceMethod yX6_doesCut]
def wsX6_of_r2 : List Cond := [Cond.selects RX6 yX6_doesCut yX6_doesCut, Cond.code yX6_doesCut cX6_doesCut 3 (some .boolean)]
def wsX6_of : List Cond := .code yX6_of cX6_of 3 (some .int) :: ((wsX6_of_r1 ++ wsX6_of_r2) ++ wsX60)
def wsX6_isYear : List Cond := .code yX6_isYear cX6_isYear 1 (some .boolean) :: ([.methodLink RX6 44 yX6_within, .static yX6_within, .initialized RX6, .code yX6_within cX6_within 3 (some .boolean)])
def wsX6_span : List Cond := .code yX6_span cX6_span 4 (some .int) :: ([.constant RX6 48 (-100001), .constant RX6 72 (-100003), .fieldLink RX6 9 "GraveRowsModel" "now" "[I", .methodLink RX6 54 yX6_isGrave, .instanceMethod yX6_isGrave, .selects RX6 yX6_isGrave yX6_isGrave, .initialized RX6, .code yX6_isGrave cX6_isGrave 2 (some .boolean), .methodLink RX6 44 yX6_within, .static yX6_within, .code yX6_within cX6_within 3 (some .boolean), .methodLink RX6 69 yX6_isYear, .static yX6_isYear, .code yX6_isYear cX6_isYear 1 (some .boolean), .methodLink RX6 49 yX6_finding, .instanceMethod yX6_finding, .selects RX6 yX6_finding yX6_finding, .code yX6_finding cX6_finding 2 (some .int), .fieldLink RX6 40 "GraveRowsModel" "findings" "I"] ++ wsX60)
def wsX6_coin : List Cond := .code yX6_coin cX6_coin 3 (some .int) :: ([.constant RX6 48 (-100001), .fieldLink RX6 9 "GraveRowsModel" "now" "[I", .constant RX6 58 (-100004), .constant RX6 72 (-100003), .methodLink RX6 73 Lib.Math.max.name, .static Lib.Math.max.name, .initialized "java/lang/Math", .code Lib.Math.max.name Lib.Math.max.code 2 (some .int), .methodLink RX6 54 yX6_isGrave, .instanceMethod yX6_isGrave, .selects RX6 yX6_isGrave yX6_isGrave, .initialized RX6, .code yX6_isGrave cX6_isGrave 2 (some .boolean), .methodLink RX6 44 yX6_within, .static yX6_within, .code yX6_within cX6_within 3 (some .boolean), .methodLink RX6 69 yX6_isYear, .static yX6_isYear, .code yX6_isYear cX6_isYear 1 (some .boolean), .methodLink RX6 49 yX6_finding, .instanceMethod yX6_finding, .selects RX6 yX6_finding yX6_finding, .code yX6_finding cX6_finding 2 (some .int), .fieldLink RX6 40 "GraveRowsModel" "findings" "I"] ++ wsX60)
def wsX6_below : List Cond := .code yX6_below cX6_below 5 (some .int) :: ([.fieldLink RX6 9 "GraveRowsModel" "now" "[I"] ++ wsX60)
def wsX6_cut_r1 : List Cond := [Cond.constant RX6 48 (-100001), Cond.constant RX6 72 (-100003), Cond.constant RX6 82 (-100007), Cond.fieldLink RX6 9 "GraveRowsModel" "now" "[I", Cond.methodLink RX6 54 yX6_isGrave, Cond.instanceMethod yX6_isGrave, Cond.selects RX6 yX6_isGrave yX6_isGrave, Cond.initialized RX6, Cond.code yX6_isGrave cX6_isGrave 2 (some .boolean), Cond.methodLink RX6 44 yX6_within, Cond.static yX6_within, Cond.code yX6_within cX6_within 3 (some .boolean), Cond.methodLink RX6 49 yX6_finding, Cond.instanceMethod yX6_finding, Cond.selects RX6 yX6_finding yX6_finding, Cond.code yX6_finding cX6_finding 2 (some .int), Cond.fieldLink RX6 40 "GraveRowsModel" "findings" "I", Cond.methodLink RX6 79 yX6_below, Cond.instanceMethod yX6_below, Cond.selects RX6 yX6_below yX6_below, Cond.code yX6_below cX6_below 5 (some .int), Cond.methodLink RX6 59 yX6_doesCut, Cond.instanceMethod yX6_doesCut, Cond.selects RX6 yX6_doesCut yX6_doesCut]
def wsX6_cut_r2 : List Cond := [Cond.code yX6_doesCut cX6_doesCut 3 (some .boolean)]
def wsX6_cut : List Cond := .code yX6_cut cX6_cut 5 (some .int) :: ((wsX6_cut_r1 ++ wsX6_cut_r2) ++ wsX60)
def wsX6_later : List Cond := .code yX6_later cX6_later 3 (some .int) :: ([.constant RX6 48 (-100001), .methodLink RX6 54 yX6_isGrave, .instanceMethod yX6_isGrave, .selects RX6 yX6_isGrave yX6_isGrave, .initialized RX6, .code yX6_isGrave cX6_isGrave 2 (some .boolean), .fieldLink RX6 9 "GraveRowsModel" "now" "[I", .methodLink RX6 44 yX6_within, .static yX6_within, .code yX6_within cX6_within 3 (some .boolean), .methodLink RX6 49 yX6_finding, .instanceMethod yX6_finding, .selects RX6 yX6_finding yX6_finding, .code yX6_finding cX6_finding 2 (some .int), .fieldLink RX6 40 "GraveRowsModel" "findings" "I", .methodLink RX6 79 yX6_below, .instanceMethod yX6_below, .selects RX6 yX6_below yX6_below, .code yX6_below cX6_below 5 (some .int)] ++ wsX60)
def wsX6_fill : List Cond := .code yX6_fill cX6_fill 2 (some .int) :: ([.fieldLink RX6 9 "GraveRowsModel" "now" "[I", .constant RX6 83 (-100006), .methodLink RX6 49 yX6_finding, .instanceMethod yX6_finding, .selects RX6 yX6_finding yX6_finding, .initialized RX6, .code yX6_finding cX6_finding 2 (some .int), .fieldLink RX6 40 "GraveRowsModel" "findings" "I"] ++ wsX60)
def wsX6_isSheet : List Cond := .code yX6_isSheet cX6_isSheet 1 (some .boolean) :: ([.methodLink RX6 44 yX6_within, .static yX6_within, .initialized RX6, .code yX6_within cX6_within 3 (some .boolean)])
def wsX6_sheet : List Cond := .code yX6_sheet cX6_sheet 5 (some .int) :: ([.constant RX6 48 (-100001), .constant RX6 72 (-100003), .fieldLink RX6 16 "GraveRowsModel" "bits" "[I", .fieldLink RX6 19 "GraveRowsModel" "sizes" "[I", .fieldLink RX6 22 "GraveRowsModel" "sheets" "[I", .methodLink RX6 84 yX6_isSheet, .static yX6_isSheet, .initialized RX6, .code yX6_isSheet cX6_isSheet 1 (some .boolean), .methodLink RX6 44 yX6_within, .static yX6_within, .code yX6_within cX6_within 3 (some .boolean), .methodLink RX6 49 yX6_finding, .instanceMethod yX6_finding, .selects RX6 yX6_finding yX6_finding, .code yX6_finding cX6_finding 2 (some .int), .fieldLink RX6 40 "GraveRowsModel" "findings" "I"] ++ wsX60)
def wsX6_put : List Cond := .code yX6_put cX6_put 4 (some .int) :: ([.constant RX6 48 (-100001), .fieldLink RX6 16 "GraveRowsModel" "bits" "[I", .constant RX6 87 (-100002), .fieldLink RX6 19 "GraveRowsModel" "sizes" "[I", .fieldLink RX6 22 "GraveRowsModel" "sheets" "[I", .constant RX6 88 (65535), .methodLink RX6 84 yX6_isSheet, .static yX6_isSheet, .initialized RX6, .code yX6_isSheet cX6_isSheet 1 (some .boolean), .methodLink RX6 44 yX6_within, .static yX6_within, .code yX6_within cX6_within 3 (some .boolean), .methodLink RX6 49 yX6_finding, .instanceMethod yX6_finding, .selects RX6 yX6_finding yX6_finding, .code yX6_finding cX6_finding 2 (some .int), .fieldLink RX6 40 "GraveRowsModel" "findings" "I"] ++ wsX60)
def wsX6_copy : List Cond := .code yX6_copy cX6_copy 7 (some .int) :: ([.constant RX6 48 (-100001), .fieldLink RX6 16 "GraveRowsModel" "bits" "[I", .constant RX6 87 (-100002), .constant RX6 58 (-100004), .fieldLink RX6 19 "GraveRowsModel" "sizes" "[I", .fieldLink RX6 25 "GraveRowsModel" "carried" "[I", .fieldLink RX6 22 "GraveRowsModel" "sheets" "[I", .methodLink RX6 84 yX6_isSheet, .static yX6_isSheet, .initialized RX6, .code yX6_isSheet cX6_isSheet 1 (some .boolean), .methodLink RX6 44 yX6_within, .static yX6_within, .code yX6_within cX6_within 3 (some .boolean), .methodLink RX6 49 yX6_finding, .instanceMethod yX6_finding, .selects RX6 yX6_finding yX6_finding, .code yX6_finding cX6_finding 2 (some .int), .fieldLink RX6 40 "GraveRowsModel" "findings" "I"] ++ wsX60)
def wsX6_read_r1 : List Cond := [Cond.constant RX6 48 (-100001), Cond.fieldLink RX6 16 "GraveRowsModel" "bits" "[I", Cond.constant RX6 87 (-100002), Cond.fieldLink RX6 9 "GraveRowsModel" "now" "[I", Cond.fieldLink RX6 19 "GraveRowsModel" "sizes" "[I", Cond.fieldLink RX6 22 "GraveRowsModel" "sheets" "[I", Cond.methodLink RX6 54 yX6_isGrave, Cond.instanceMethod yX6_isGrave, Cond.selects RX6 yX6_isGrave yX6_isGrave, Cond.initialized RX6, Cond.code yX6_isGrave cX6_isGrave 2 (some .boolean), Cond.methodLink RX6 44 yX6_within, Cond.static yX6_within, Cond.code yX6_within cX6_within 3 (some .boolean), Cond.methodLink RX6 84 yX6_isSheet, Cond.static yX6_isSheet, Cond.code yX6_isSheet cX6_isSheet 1 (some .boolean), Cond.methodLink RX6 49 yX6_finding, Cond.instanceMethod yX6_finding, Cond.selects RX6 yX6_finding yX6_finding, Cond.code yX6_finding cX6_finding 2 (some .int), Cond.fieldLink RX6 40 "GraveRowsModel" "findings" "I", Cond.methodLink RX6 63 yX6_many, Cond.static yX6_many]
def wsX6_read_r2 : List Cond := [Cond.code yX6_many cX6_many 3 (some .int)]
def wsX6_read : List Cond := .code yX6_read cX6_read 5 (some .int) :: ((wsX6_read_r1 ++ wsX6_read_r2) ++ wsX60)
def wsX6_mayHave : List Cond := .code yX6_mayHave cX6_mayHave 2 (some .boolean) :: ([.fieldLink RX6 9 "GraveRowsModel" "now" "[I"] ++ wsX60)
def wsX6_holesOf : List Cond := .code yX6_holesOf cX6_holesOf 7 (some .int) :: ([.fieldLink RX6 9 "GraveRowsModel" "now" "[I", .methodLink RX6 89 yX6_mayHave, .instanceMethod yX6_mayHave, .selects RX6 yX6_mayHave yX6_mayHave, .initialized RX6, .code yX6_mayHave cX6_mayHave 2 (some .boolean), .methodLink RX6 63 yX6_many, .static yX6_many, .code yX6_many cX6_many 3 (some .int)] ++ wsX60)
def wsX6_take : List Cond := .code yX6_take cX6_take 4 none :: ([.fieldLink RX6 92 "GraveRowsModel" "least" "I", .fieldLink RX6 95 "GraveRowsModel" "ways" "I", .fieldLink RX6 28 "GraveRowsModel" "best" "[I", .fieldLink RX6 31 "GraveRowsModel" "row" "[I"] ++ wsX60)
def wsX6_search : List Cond := .code yX6_search cX6_search 6 none :: ([.fieldLink RX6 9 "GraveRowsModel" "now" "[I", .fieldLink RX6 92 "GraveRowsModel" "least" "I", .fieldLink RX6 95 "GraveRowsModel" "ways" "I", .fieldLink RX6 34 "GraveRowsModel" "costs" "[I", .fieldLink RX6 37 "GraveRowsModel" "tried" "[I", .fieldLink RX6 31 "GraveRowsModel" "row" "[I", .methodLink RX6 98 yX6_holesOf, .instanceMethod yX6_holesOf, .selects RX6 yX6_holesOf yX6_holesOf, .initialized RX6, .code yX6_holesOf cX6_holesOf 7 (some .int), .methodLink RX6 89 yX6_mayHave, .instanceMethod yX6_mayHave, .selects RX6 yX6_mayHave yX6_mayHave, .code yX6_mayHave cX6_mayHave 2 (some .boolean), .methodLink RX6 63 yX6_many, .static yX6_many, .code yX6_many cX6_many 3 (some .int), .methodLink RX6 102 yX6_take, .instanceMethod yX6_take, .selects RX6 yX6_take yX6_take, .code yX6_take cX6_take 4 none, .fieldLink RX6 28 "GraveRowsModel" "best" "[I"] ++ wsX60)
def wsX6_noOrder : List Cond := .code yX6_noOrder cX6_noOrder 1 (some .int) :: ([.fieldLink RX6 9 "GraveRowsModel" "now" "[I", .constant RX6 83 (-100006), .constant RX6 106 (-100008)] ++ wsX60)
def wsX6_order_r1 : List Cond := [Cond.fieldLink RX6 92 "GraveRowsModel" "least" "I", Cond.methodLink RX6 107 yX6_noOrder, Cond.instanceMethod yX6_noOrder, Cond.selects RX6 yX6_noOrder yX6_noOrder, Cond.initialized RX6, Cond.code yX6_noOrder cX6_noOrder 1 (some .int), Cond.fieldLink RX6 9 "GraveRowsModel" "now" "[I", Cond.constant RX6 83 (-100006), Cond.constant RX6 106 (-100008), Cond.methodLink RX6 49 yX6_finding, Cond.instanceMethod yX6_finding, Cond.selects RX6 yX6_finding yX6_finding, Cond.code yX6_finding cX6_finding 2 (some .int), Cond.fieldLink RX6 40 "GraveRowsModel" "findings" "I", Cond.methodLink RX6 111 yX6_search, Cond.instanceMethod yX6_search, Cond.selects RX6 yX6_search yX6_search, Cond.code yX6_search cX6_search 6 none, Cond.fieldLink RX6 95 "GraveRowsModel" "ways" "I", Cond.fieldLink RX6 34 "GraveRowsModel" "costs" "[I", Cond.fieldLink RX6 37 "GraveRowsModel" "tried" "[I", Cond.fieldLink RX6 31 "GraveRowsModel" "row" "[I", Cond.methodLink RX6 98 yX6_holesOf, Cond.instanceMethod yX6_holesOf]
def wsX6_order_r2 : List Cond := [Cond.selects RX6 yX6_holesOf yX6_holesOf, Cond.code yX6_holesOf cX6_holesOf 7 (some .int), Cond.methodLink RX6 89 yX6_mayHave, Cond.instanceMethod yX6_mayHave, Cond.selects RX6 yX6_mayHave yX6_mayHave, Cond.code yX6_mayHave cX6_mayHave 2 (some .boolean), Cond.methodLink RX6 63 yX6_many, Cond.static yX6_many, Cond.code yX6_many cX6_many 3 (some .int), Cond.methodLink RX6 102 yX6_take, Cond.instanceMethod yX6_take, Cond.selects RX6 yX6_take yX6_take, Cond.code yX6_take cX6_take 4 none, Cond.fieldLink RX6 28 "GraveRowsModel" "best" "[I"]
def wsX6_order : List Cond := .code yX6_order cX6_order 1 (some .int) :: ((wsX6_order_r1 ++ wsX6_order_r2) ++ wsX60)
def wsX6_at_r1 : List Cond := [Cond.fieldLink RX6 9 "GraveRowsModel" "now" "[I", Cond.constant RX6 48 (-100001), Cond.fieldLink RX6 28 "GraveRowsModel" "best" "[I", Cond.methodLink RX6 107 yX6_noOrder, Cond.instanceMethod yX6_noOrder, Cond.selects RX6 yX6_noOrder yX6_noOrder, Cond.initialized RX6, Cond.code yX6_noOrder cX6_noOrder 1 (some .int), Cond.constant RX6 83 (-100006), Cond.constant RX6 106 (-100008), Cond.methodLink RX6 49 yX6_finding, Cond.instanceMethod yX6_finding, Cond.selects RX6 yX6_finding yX6_finding, Cond.code yX6_finding cX6_finding 2 (some .int), Cond.fieldLink RX6 40 "GraveRowsModel" "findings" "I", Cond.methodLink RX6 44 yX6_within, Cond.static yX6_within, Cond.code yX6_within cX6_within 3 (some .boolean), Cond.methodLink RX6 111 yX6_search, Cond.instanceMethod yX6_search, Cond.selects RX6 yX6_search yX6_search, Cond.code yX6_search cX6_search 6 none, Cond.fieldLink RX6 92 "GraveRowsModel" "least" "I", Cond.fieldLink RX6 95 "GraveRowsModel" "ways" "I"]
def wsX6_at_r2 : List Cond := [Cond.fieldLink RX6 34 "GraveRowsModel" "costs" "[I", Cond.fieldLink RX6 37 "GraveRowsModel" "tried" "[I", Cond.fieldLink RX6 31 "GraveRowsModel" "row" "[I", Cond.methodLink RX6 98 yX6_holesOf, Cond.instanceMethod yX6_holesOf, Cond.selects RX6 yX6_holesOf yX6_holesOf, Cond.code yX6_holesOf cX6_holesOf 7 (some .int), Cond.methodLink RX6 89 yX6_mayHave, Cond.instanceMethod yX6_mayHave, Cond.selects RX6 yX6_mayHave yX6_mayHave, Cond.code yX6_mayHave cX6_mayHave 2 (some .boolean), Cond.methodLink RX6 63 yX6_many, Cond.static yX6_many, Cond.code yX6_many cX6_many 3 (some .int), Cond.methodLink RX6 102 yX6_take, Cond.instanceMethod yX6_take, Cond.selects RX6 yX6_take yX6_take, Cond.code yX6_take cX6_take 4 none]
def wsX6_at : List Cond := .code yX6_at cX6_at 2 (some .int) :: ((wsX6_at_r1 ++ wsX6_at_r2) ++ wsX60)
def wsX6_holesIn : List Cond := .code yX6_holesIn cX6_holesIn 6 (some .int) :: ([.fieldLink RX6 9 "GraveRowsModel" "now" "[I", .methodLink RX6 98 yX6_holesOf, .instanceMethod yX6_holesOf, .selects RX6 yX6_holesOf yX6_holesOf, .initialized RX6, .code yX6_holesOf cX6_holesOf 7 (some .int), .methodLink RX6 89 yX6_mayHave, .instanceMethod yX6_mayHave, .selects RX6 yX6_mayHave yX6_mayHave, .code yX6_mayHave cX6_mayHave 2 (some .boolean), .methodLink RX6 63 yX6_many, .static yX6_many, .code yX6_many cX6_many 3 (some .int)] ++ wsX60)
def wsX6_holes_r1 : List Cond := [Cond.constant RX6 48 (-100001), Cond.fieldLink RX6 28 "GraveRowsModel" "best" "[I", Cond.methodLink RX6 115 yX6_isGood, Cond.static yX6_isGood, Cond.initialized RX6, Cond.code yX6_isGood cX6_isGood 1 (some .boolean), Cond.methodLink RX6 44 yX6_within, Cond.static yX6_within, Cond.code yX6_within cX6_within 3 (some .boolean), Cond.methodLink RX6 49 yX6_finding, Cond.instanceMethod yX6_finding, Cond.selects RX6 yX6_finding yX6_finding, Cond.code yX6_finding cX6_finding 2 (some .int), Cond.fieldLink RX6 40 "GraveRowsModel" "findings" "I", Cond.methodLink RX6 107 yX6_noOrder, Cond.instanceMethod yX6_noOrder, Cond.selects RX6 yX6_noOrder yX6_noOrder, Cond.code yX6_noOrder cX6_noOrder 1 (some .int), Cond.fieldLink RX6 9 "GraveRowsModel" "now" "[I", Cond.constant RX6 83 (-100006), Cond.constant RX6 106 (-100008), Cond.methodLink RX6 111 yX6_search, Cond.instanceMethod yX6_search, Cond.selects RX6 yX6_search yX6_search]
def wsX6_holes_r2 : List Cond := [Cond.code yX6_search cX6_search 6 none, Cond.fieldLink RX6 92 "GraveRowsModel" "least" "I", Cond.fieldLink RX6 95 "GraveRowsModel" "ways" "I", Cond.fieldLink RX6 34 "GraveRowsModel" "costs" "[I", Cond.fieldLink RX6 37 "GraveRowsModel" "tried" "[I", Cond.fieldLink RX6 31 "GraveRowsModel" "row" "[I", Cond.methodLink RX6 98 yX6_holesOf, Cond.instanceMethod yX6_holesOf, Cond.selects RX6 yX6_holesOf yX6_holesOf, Cond.code yX6_holesOf cX6_holesOf 7 (some .int), Cond.methodLink RX6 89 yX6_mayHave, Cond.instanceMethod yX6_mayHave, Cond.selects RX6 yX6_mayHave yX6_mayHave, Cond.code yX6_mayHave cX6_mayHave 2 (some .boolean), Cond.methodLink RX6 63 yX6_many, Cond.static yX6_many, Cond.code yX6_many cX6_many 3 (some .int), Cond.methodLink RX6 102 yX6_take, Cond.instanceMethod yX6_take, Cond.selects RX6 yX6_take yX6_take, Cond.code yX6_take cX6_take 4 none, Cond.methodLink RX6 118 yX6_holesIn, Cond.instanceMethod yX6_holesIn, Cond.selects RX6 yX6_holesIn yX6_holesIn]
def wsX6_holes_r3 : List Cond := [Cond.code yX6_holesIn cX6_holesIn 6 (some .int)]
def wsX6_holes : List Cond := .code yX6_holes cX6_holes 2 (some .int) :: ((wsX6_holes_r1 ++ (wsX6_holes_r2 ++ wsX6_holes_r3)) ++ wsX60)
def wsX6_has : List Cond := .code yX6_has cX6_has 3 (some .boolean) :: ([.fieldLink RX6 9 "GraveRowsModel" "now" "[I"] ++ wsX60)
def wsX6_good_r1 : List Cond := [Cond.constant RX6 48 (-100001), Cond.fieldLink RX6 9 "GraveRowsModel" "now" "[I", Cond.constant RX6 83 (-100006), Cond.fieldLink RX6 28 "GraveRowsModel" "best" "[I", Cond.methodLink RX6 115 yX6_isGood, Cond.static yX6_isGood, Cond.initialized RX6, Cond.code yX6_isGood cX6_isGood 1 (some .boolean), Cond.methodLink RX6 44 yX6_within, Cond.static yX6_within, Cond.code yX6_within cX6_within 3 (some .boolean), Cond.methodLink RX6 49 yX6_finding, Cond.instanceMethod yX6_finding, Cond.selects RX6 yX6_finding yX6_finding, Cond.code yX6_finding cX6_finding 2 (some .int), Cond.fieldLink RX6 40 "GraveRowsModel" "findings" "I", Cond.methodLink RX6 122 yX6_has, Cond.instanceMethod yX6_has, Cond.selects RX6 yX6_has yX6_has, Cond.code yX6_has cX6_has 3 (some .boolean), Cond.methodLink RX6 107 yX6_noOrder, Cond.instanceMethod yX6_noOrder, Cond.selects RX6 yX6_noOrder yX6_noOrder, Cond.code yX6_noOrder cX6_noOrder 1 (some .int)]
def wsX6_good_r2 : List Cond := [Cond.constant RX6 106 (-100008), Cond.methodLink RX6 111 yX6_search, Cond.instanceMethod yX6_search, Cond.selects RX6 yX6_search yX6_search, Cond.code yX6_search cX6_search 6 none, Cond.fieldLink RX6 92 "GraveRowsModel" "least" "I", Cond.fieldLink RX6 95 "GraveRowsModel" "ways" "I", Cond.fieldLink RX6 34 "GraveRowsModel" "costs" "[I", Cond.fieldLink RX6 37 "GraveRowsModel" "tried" "[I", Cond.fieldLink RX6 31 "GraveRowsModel" "row" "[I", Cond.methodLink RX6 98 yX6_holesOf, Cond.instanceMethod yX6_holesOf, Cond.selects RX6 yX6_holesOf yX6_holesOf, Cond.code yX6_holesOf cX6_holesOf 7 (some .int), Cond.methodLink RX6 89 yX6_mayHave, Cond.instanceMethod yX6_mayHave, Cond.selects RX6 yX6_mayHave yX6_mayHave, Cond.code yX6_mayHave cX6_mayHave 2 (some .boolean), Cond.methodLink RX6 63 yX6_many, Cond.static yX6_many, Cond.code yX6_many cX6_many 3 (some .int), Cond.methodLink RX6 102 yX6_take, Cond.instanceMethod yX6_take, Cond.selects RX6 yX6_take yX6_take]
def wsX6_good_r3 : List Cond := [Cond.code yX6_take cX6_take 4 none]
def wsX6_good : List Cond := .code yX6_good cX6_good 6 (some .int) :: ((wsX6_good_r1 ++ (wsX6_good_r2 ++ wsX6_good_r3)) ++ wsX60)
def wsX6_tell : List Cond := .code yX6_tell cX6_tell 2 (some .int) :: ([.fieldLink RX6 9 "GraveRowsModel" "now" "[I", .constant RX6 53 (-100005), .methodLink RX6 49 yX6_finding, .instanceMethod yX6_finding, .selects RX6 yX6_finding yX6_finding, .initialized RX6, .code yX6_finding cX6_finding 2 (some .int), .fieldLink RX6 40 "GraveRowsModel" "findings" "I"] ++ wsX60)
def wsX6_check_r1 : List Cond := [Cond.fieldLink RX6 9 "GraveRowsModel" "now" "[I", Cond.constant RX6 83 (-100006), Cond.fieldLink RX6 31 "GraveRowsModel" "row" "[I", Cond.methodLink RX6 49 yX6_finding, Cond.instanceMethod yX6_finding, Cond.selects RX6 yX6_finding yX6_finding, Cond.initialized RX6, Cond.code yX6_finding cX6_finding 2 (some .int), Cond.fieldLink RX6 40 "GraveRowsModel" "findings" "I", Cond.methodLink RX6 54 yX6_isGrave, Cond.instanceMethod yX6_isGrave, Cond.selects RX6 yX6_isGrave yX6_isGrave, Cond.code yX6_isGrave cX6_isGrave 2 (some .boolean), Cond.methodLink RX6 44 yX6_within, Cond.static yX6_within, Cond.code yX6_within cX6_within 3 (some .boolean), Cond.methodLink RX6 79 yX6_below, Cond.instanceMethod yX6_below, Cond.selects RX6 yX6_below yX6_below, Cond.code yX6_below cX6_below 5 (some .int), Cond.methodLink RX6 118 yX6_holesIn, Cond.instanceMethod yX6_holesIn, Cond.selects RX6 yX6_holesIn yX6_holesIn, Cond.code yX6_holesIn cX6_holesIn 6 (some .int)]
def wsX6_check_r2 : List Cond := [Cond.methodLink RX6 98 yX6_holesOf, Cond.instanceMethod yX6_holesOf, Cond.selects RX6 yX6_holesOf yX6_holesOf, Cond.code yX6_holesOf cX6_holesOf 7 (some .int), Cond.methodLink RX6 89 yX6_mayHave, Cond.instanceMethod yX6_mayHave, Cond.selects RX6 yX6_mayHave yX6_mayHave, Cond.code yX6_mayHave cX6_mayHave 2 (some .boolean), Cond.methodLink RX6 63 yX6_many, Cond.static yX6_many, Cond.code yX6_many cX6_many 3 (some .int)]
def wsX6_check : List Cond := .code yX6_check cX6_check 5 (some .int) :: ((wsX6_check_r1 ++ wsX6_check_r2) ++ wsX60)
def wsX6_without_r1 : List Cond := [Cond.constant RX6 48 (-100001), Cond.fieldLink RX6 92 "GraveRowsModel" "least" "I", Cond.methodLink RX6 115 yX6_isGood, Cond.static yX6_isGood, Cond.initialized RX6, Cond.code yX6_isGood cX6_isGood 1 (some .boolean), Cond.methodLink RX6 44 yX6_within, Cond.static yX6_within, Cond.code yX6_within cX6_within 3 (some .boolean), Cond.methodLink RX6 49 yX6_finding, Cond.instanceMethod yX6_finding, Cond.selects RX6 yX6_finding yX6_finding, Cond.code yX6_finding cX6_finding 2 (some .int), Cond.fieldLink RX6 40 "GraveRowsModel" "findings" "I", Cond.methodLink RX6 107 yX6_noOrder, Cond.instanceMethod yX6_noOrder, Cond.selects RX6 yX6_noOrder yX6_noOrder, Cond.code yX6_noOrder cX6_noOrder 1 (some .int), Cond.fieldLink RX6 9 "GraveRowsModel" "now" "[I", Cond.constant RX6 83 (-100006), Cond.constant RX6 106 (-100008), Cond.methodLink RX6 111 yX6_search, Cond.instanceMethod yX6_search, Cond.selects RX6 yX6_search yX6_search]
def wsX6_without_r2 : List Cond := [Cond.code yX6_search cX6_search 6 none, Cond.fieldLink RX6 95 "GraveRowsModel" "ways" "I", Cond.fieldLink RX6 34 "GraveRowsModel" "costs" "[I", Cond.fieldLink RX6 37 "GraveRowsModel" "tried" "[I", Cond.fieldLink RX6 31 "GraveRowsModel" "row" "[I", Cond.methodLink RX6 98 yX6_holesOf, Cond.instanceMethod yX6_holesOf, Cond.selects RX6 yX6_holesOf yX6_holesOf, Cond.code yX6_holesOf cX6_holesOf 7 (some .int), Cond.methodLink RX6 89 yX6_mayHave, Cond.instanceMethod yX6_mayHave, Cond.selects RX6 yX6_mayHave yX6_mayHave, Cond.code yX6_mayHave cX6_mayHave 2 (some .boolean), Cond.methodLink RX6 63 yX6_many, Cond.static yX6_many, Cond.code yX6_many cX6_many 3 (some .int), Cond.methodLink RX6 102 yX6_take, Cond.instanceMethod yX6_take, Cond.selects RX6 yX6_take yX6_take, Cond.code yX6_take cX6_take 4 none, Cond.fieldLink RX6 28 "GraveRowsModel" "best" "[I"]
def wsX6_without : List Cond := .code yX6_without cX6_without 2 (some .int) :: ((wsX6_without_r1 ++ wsX6_without_r2) ++ wsX60)
def wsX6_ways_r1 : List Cond := [Cond.fieldLink RX6 95 "GraveRowsModel" "ways" "I", Cond.methodLink RX6 107 yX6_noOrder, Cond.instanceMethod yX6_noOrder, Cond.selects RX6 yX6_noOrder yX6_noOrder, Cond.initialized RX6, Cond.code yX6_noOrder cX6_noOrder 1 (some .int), Cond.fieldLink RX6 9 "GraveRowsModel" "now" "[I", Cond.constant RX6 83 (-100006), Cond.constant RX6 106 (-100008), Cond.methodLink RX6 49 yX6_finding, Cond.instanceMethod yX6_finding, Cond.selects RX6 yX6_finding yX6_finding, Cond.code yX6_finding cX6_finding 2 (some .int), Cond.fieldLink RX6 40 "GraveRowsModel" "findings" "I", Cond.methodLink RX6 111 yX6_search, Cond.instanceMethod yX6_search, Cond.selects RX6 yX6_search yX6_search, Cond.code yX6_search cX6_search 6 none, Cond.fieldLink RX6 92 "GraveRowsModel" "least" "I", Cond.fieldLink RX6 34 "GraveRowsModel" "costs" "[I", Cond.fieldLink RX6 37 "GraveRowsModel" "tried" "[I", Cond.fieldLink RX6 31 "GraveRowsModel" "row" "[I", Cond.methodLink RX6 98 yX6_holesOf, Cond.instanceMethod yX6_holesOf]
def wsX6_ways_r2 : List Cond := [Cond.selects RX6 yX6_holesOf yX6_holesOf, Cond.code yX6_holesOf cX6_holesOf 7 (some .int), Cond.methodLink RX6 89 yX6_mayHave, Cond.instanceMethod yX6_mayHave, Cond.selects RX6 yX6_mayHave yX6_mayHave, Cond.code yX6_mayHave cX6_mayHave 2 (some .boolean), Cond.methodLink RX6 63 yX6_many, Cond.static yX6_many, Cond.code yX6_many cX6_many 3 (some .int), Cond.methodLink RX6 102 yX6_take, Cond.instanceMethod yX6_take, Cond.selects RX6 yX6_take yX6_take, Cond.code yX6_take cX6_take 4 none, Cond.fieldLink RX6 28 "GraveRowsModel" "best" "[I"]
def wsX6_ways : List Cond := .code yX6_ways cX6_ways 1 (some .int) :: ((wsX6_ways_r1 ++ wsX6_ways_r2) ++ wsX60)
def wsX6_goesOn : List Cond := .code yX6_goesOn cX6_goesOn 5 (some .int) :: ([.fieldLink RX6 9 "GraveRowsModel" "now" "[I", .fieldLink RX6 28 "GraveRowsModel" "best" "[I", .methodLink RX6 63 yX6_many, .static yX6_many, .initialized RX6, .code yX6_many cX6_many 3 (some .int)] ++ wsX60)
def wsX6_isEarlier : List Cond := .code yX6_isEarlier cX6_isEarlier 3 (some .boolean) :: ([])
def wsX6_part : List Cond := .code yX6_part cX6_part 5 none :: ([.fieldLink RX6 125 "GraveRowsModel" "fewest" "I", .fieldLink RX6 128 "GraveRowsModel" "borders" "I", .fieldLink RX6 9 "GraveRowsModel" "now" "[I", .methodLink RX6 63 yX6_many, .static yX6_many, .initialized RX6, .code yX6_many cX6_many 3 (some .int), .methodLink RX6 131 yX6_goesOn, .instanceMethod yX6_goesOn, .selects RX6 yX6_goesOn yX6_goesOn, .code yX6_goesOn cX6_goesOn 5 (some .int), .fieldLink RX6 28 "GraveRowsModel" "best" "[I", .methodLink RX6 134 yX6_isEarlier, .static yX6_isEarlier, .code yX6_isEarlier cX6_isEarlier 3 (some .boolean)] ++ wsX60)
def wsX6_noStretches : List Cond := .code yX6_noStretches cX6_noStretches 2 (some .int) :: ([.fieldLink RX6 9 "GraveRowsModel" "now" "[I", .constant RX6 48 (-100001), .methodLink RX6 107 yX6_noOrder, .instanceMethod yX6_noOrder, .selects RX6 yX6_noOrder yX6_noOrder, .initialized RX6, .code yX6_noOrder cX6_noOrder 1 (some .int), .constant RX6 83 (-100006), .constant RX6 106 (-100008), .methodLink RX6 44 yX6_within, .static yX6_within, .code yX6_within cX6_within 3 (some .boolean)] ++ wsX60)
def wsX6_stretches_r1 : List Cond := [Cond.fieldLink RX6 125 "GraveRowsModel" "fewest" "I", Cond.methodLink RX6 137 yX6_noStretches, Cond.instanceMethod yX6_noStretches, Cond.selects RX6 yX6_noStretches yX6_noStretches, Cond.initialized RX6, Cond.code yX6_noStretches cX6_noStretches 2 (some .int), Cond.fieldLink RX6 9 "GraveRowsModel" "now" "[I", Cond.constant RX6 48 (-100001), Cond.methodLink RX6 107 yX6_noOrder, Cond.instanceMethod yX6_noOrder, Cond.selects RX6 yX6_noOrder yX6_noOrder, Cond.code yX6_noOrder cX6_noOrder 1 (some .int), Cond.constant RX6 83 (-100006), Cond.constant RX6 106 (-100008), Cond.methodLink RX6 44 yX6_within, Cond.static yX6_within, Cond.code yX6_within cX6_within 3 (some .boolean), Cond.methodLink RX6 49 yX6_finding, Cond.instanceMethod yX6_finding, Cond.selects RX6 yX6_finding yX6_finding, Cond.code yX6_finding cX6_finding 2 (some .int), Cond.fieldLink RX6 40 "GraveRowsModel" "findings" "I", Cond.methodLink RX6 111 yX6_search, Cond.instanceMethod yX6_search]
def wsX6_stretches_r2 : List Cond := [Cond.selects RX6 yX6_search yX6_search, Cond.code yX6_search cX6_search 6 none, Cond.fieldLink RX6 92 "GraveRowsModel" "least" "I", Cond.fieldLink RX6 95 "GraveRowsModel" "ways" "I", Cond.fieldLink RX6 34 "GraveRowsModel" "costs" "[I", Cond.fieldLink RX6 37 "GraveRowsModel" "tried" "[I", Cond.fieldLink RX6 31 "GraveRowsModel" "row" "[I", Cond.methodLink RX6 98 yX6_holesOf, Cond.instanceMethod yX6_holesOf, Cond.selects RX6 yX6_holesOf yX6_holesOf, Cond.code yX6_holesOf cX6_holesOf 7 (some .int), Cond.methodLink RX6 89 yX6_mayHave, Cond.instanceMethod yX6_mayHave, Cond.selects RX6 yX6_mayHave yX6_mayHave, Cond.code yX6_mayHave cX6_mayHave 2 (some .boolean), Cond.methodLink RX6 63 yX6_many, Cond.static yX6_many, Cond.code yX6_many cX6_many 3 (some .int), Cond.methodLink RX6 102 yX6_take, Cond.instanceMethod yX6_take, Cond.selects RX6 yX6_take yX6_take, Cond.code yX6_take cX6_take 4 none, Cond.fieldLink RX6 28 "GraveRowsModel" "best" "[I", Cond.methodLink RX6 140 yX6_part]
def wsX6_stretches_r3 : List Cond := [Cond.instanceMethod yX6_part, Cond.selects RX6 yX6_part yX6_part, Cond.code yX6_part cX6_part 5 none, Cond.fieldLink RX6 128 "GraveRowsModel" "borders" "I", Cond.methodLink RX6 131 yX6_goesOn, Cond.instanceMethod yX6_goesOn, Cond.selects RX6 yX6_goesOn yX6_goesOn, Cond.code yX6_goesOn cX6_goesOn 5 (some .int), Cond.methodLink RX6 134 yX6_isEarlier, Cond.static yX6_isEarlier, Cond.code yX6_isEarlier cX6_isEarlier 3 (some .boolean)]
def wsX6_stretches : List Cond := .code yX6_stretches cX6_stretches 2 (some .int) :: ((wsX6_stretches_r1 ++ (wsX6_stretches_r2 ++ wsX6_stretches_r3)) ++ wsX60)
def wsX6_border_r1 : List Cond := [Cond.constant RX6 48 (-100001), Cond.fieldLink RX6 128 "GraveRowsModel" "borders" "I", Cond.methodLink RX6 137 yX6_noStretches, Cond.instanceMethod yX6_noStretches, Cond.selects RX6 yX6_noStretches yX6_noStretches, Cond.initialized RX6, Cond.code yX6_noStretches cX6_noStretches 2 (some .int), Cond.fieldLink RX6 9 "GraveRowsModel" "now" "[I", Cond.methodLink RX6 107 yX6_noOrder, Cond.instanceMethod yX6_noOrder, Cond.selects RX6 yX6_noOrder yX6_noOrder, Cond.code yX6_noOrder cX6_noOrder 1 (some .int), Cond.constant RX6 83 (-100006), Cond.constant RX6 106 (-100008), Cond.methodLink RX6 44 yX6_within, Cond.static yX6_within, Cond.code yX6_within cX6_within 3 (some .boolean), Cond.methodLink RX6 49 yX6_finding, Cond.instanceMethod yX6_finding, Cond.selects RX6 yX6_finding yX6_finding, Cond.code yX6_finding cX6_finding 2 (some .int), Cond.fieldLink RX6 40 "GraveRowsModel" "findings" "I", Cond.methodLink RX6 111 yX6_search, Cond.instanceMethod yX6_search]
def wsX6_border_r2 : List Cond := [Cond.selects RX6 yX6_search yX6_search, Cond.code yX6_search cX6_search 6 none, Cond.fieldLink RX6 92 "GraveRowsModel" "least" "I", Cond.fieldLink RX6 95 "GraveRowsModel" "ways" "I", Cond.fieldLink RX6 34 "GraveRowsModel" "costs" "[I", Cond.fieldLink RX6 37 "GraveRowsModel" "tried" "[I", Cond.fieldLink RX6 31 "GraveRowsModel" "row" "[I", Cond.methodLink RX6 98 yX6_holesOf, Cond.instanceMethod yX6_holesOf, Cond.selects RX6 yX6_holesOf yX6_holesOf, Cond.code yX6_holesOf cX6_holesOf 7 (some .int), Cond.methodLink RX6 89 yX6_mayHave, Cond.instanceMethod yX6_mayHave, Cond.selects RX6 yX6_mayHave yX6_mayHave, Cond.code yX6_mayHave cX6_mayHave 2 (some .boolean), Cond.methodLink RX6 63 yX6_many, Cond.static yX6_many, Cond.code yX6_many cX6_many 3 (some .int), Cond.methodLink RX6 102 yX6_take, Cond.instanceMethod yX6_take, Cond.selects RX6 yX6_take yX6_take, Cond.code yX6_take cX6_take 4 none, Cond.fieldLink RX6 28 "GraveRowsModel" "best" "[I", Cond.methodLink RX6 140 yX6_part]
def wsX6_border_r3 : List Cond := [Cond.instanceMethod yX6_part, Cond.selects RX6 yX6_part yX6_part, Cond.code yX6_part cX6_part 5 none, Cond.fieldLink RX6 125 "GraveRowsModel" "fewest" "I", Cond.methodLink RX6 131 yX6_goesOn, Cond.instanceMethod yX6_goesOn, Cond.selects RX6 yX6_goesOn yX6_goesOn, Cond.code yX6_goesOn cX6_goesOn 5 (some .int), Cond.methodLink RX6 134 yX6_isEarlier, Cond.static yX6_isEarlier, Cond.code yX6_isEarlier cX6_isEarlier 3 (some .boolean)]
def wsX6_border : List Cond := .code yX6_border cX6_border 5 (some .int) :: ((wsX6_border_r1 ++ (wsX6_border_r2 ++ wsX6_border_r3)) ++ wsX60)
def wsX6_yearOf : List Cond := .code yX6_yearOf cX6_yearOf 6 (some .int) :: ([.fieldLink RX6 9 "GraveRowsModel" "now" "[I", .methodLink RX6 73 Lib.Math.max.name, .static Lib.Math.max.name, .initialized "java/lang/Math", .code Lib.Math.max.name Lib.Math.max.code 2 (some .int), .methodLink RX6 143 Lib.Math.min.name, .static Lib.Math.min.name, .code Lib.Math.min.name Lib.Math.min.code 2 (some .int), .methodLink RX6 79 yX6_below, .instanceMethod yX6_below, .selects RX6 yX6_below yX6_below, .initialized RX6, .code yX6_below cX6_below 5 (some .int)] ++ wsX60)
def wsX6_year_r1 : List Cond := [Cond.constant RX6 48 (-100001), Cond.methodLink RX6 54 yX6_isGrave, Cond.instanceMethod yX6_isGrave, Cond.selects RX6 yX6_isGrave yX6_isGrave, Cond.initialized RX6, Cond.code yX6_isGrave cX6_isGrave 2 (some .boolean), Cond.fieldLink RX6 9 "GraveRowsModel" "now" "[I", Cond.methodLink RX6 44 yX6_within, Cond.static yX6_within, Cond.code yX6_within cX6_within 3 (some .boolean), Cond.methodLink RX6 146 yX6_yearOf, Cond.instanceMethod yX6_yearOf, Cond.selects RX6 yX6_yearOf yX6_yearOf, Cond.code yX6_yearOf cX6_yearOf 6 (some .int), Cond.methodLink RX6 73 Lib.Math.max.name, Cond.static Lib.Math.max.name, Cond.initialized "java/lang/Math", Cond.code Lib.Math.max.name Lib.Math.max.code 2 (some .int), Cond.methodLink RX6 143 Lib.Math.min.name, Cond.static Lib.Math.min.name, Cond.code Lib.Math.min.name Lib.Math.min.code 2 (some .int), Cond.methodLink RX6 79 yX6_below, Cond.instanceMethod yX6_below, Cond.selects RX6 yX6_below yX6_below]
def wsX6_year_r2 : List Cond := [Cond.code yX6_below cX6_below 5 (some .int), Cond.methodLink RX6 49 yX6_finding, Cond.instanceMethod yX6_finding, Cond.selects RX6 yX6_finding yX6_finding, Cond.code yX6_finding cX6_finding 2 (some .int), Cond.fieldLink RX6 40 "GraveRowsModel" "findings" "I"]
def wsX6_year : List Cond := .code yX6_year cX6_year 3 (some .int) :: ((wsX6_year_r1 ++ wsX6_year_r2) ++ wsX60)
def wsX6_wrong : List Cond := .code yX6_wrong cX6_wrong 2 (some .int) :: ([.fieldLink RX6 9 "GraveRowsModel" "now" "[I", .methodLink RX6 146 yX6_yearOf, .instanceMethod yX6_yearOf, .selects RX6 yX6_yearOf yX6_yearOf, .initialized RX6, .code yX6_yearOf cX6_yearOf 6 (some .int), .methodLink RX6 73 Lib.Math.max.name, .static Lib.Math.max.name, .initialized "java/lang/Math", .code Lib.Math.max.name Lib.Math.max.code 2 (some .int), .methodLink RX6 143 Lib.Math.min.name, .static Lib.Math.min.name, .code Lib.Math.min.name Lib.Math.min.code 2 (some .int), .methodLink RX6 79 yX6_below, .instanceMethod yX6_below, .selects RX6 yX6_below yX6_below, .code yX6_below cX6_below 5 (some .int)] ++ wsX60)
def wsX6_in_r1 : List Cond := [Cond.constant RX6 48 (-100001), Cond.fieldLink RX6 9 "GraveRowsModel" "now" "[I", Cond.methodLink RX6 69 yX6_isYear, Cond.static yX6_isYear, Cond.initialized RX6, Cond.code yX6_isYear cX6_isYear 1 (some .boolean), Cond.methodLink RX6 44 yX6_within, Cond.static yX6_within, Cond.code yX6_within cX6_within 3 (some .boolean), Cond.methodLink RX6 49 yX6_finding, Cond.instanceMethod yX6_finding, Cond.selects RX6 yX6_finding yX6_finding, Cond.code yX6_finding cX6_finding 2 (some .int), Cond.fieldLink RX6 40 "GraveRowsModel" "findings" "I", Cond.methodLink RX6 146 yX6_yearOf, Cond.instanceMethod yX6_yearOf, Cond.selects RX6 yX6_yearOf yX6_yearOf, Cond.code yX6_yearOf cX6_yearOf 6 (some .int), Cond.methodLink RX6 73 Lib.Math.max.name, Cond.static Lib.Math.max.name, Cond.initialized "java/lang/Math", Cond.code Lib.Math.max.name Lib.Math.max.code 2 (some .int), Cond.methodLink RX6 143 Lib.Math.min.name, Cond.static Lib.Math.min.name]
def wsX6_in_r2 : List Cond := [Cond.code Lib.Math.min.name Lib.Math.min.code 2 (some .int), Cond.methodLink RX6 79 yX6_below, Cond.instanceMethod yX6_below, Cond.selects RX6 yX6_below yX6_below, Cond.code yX6_below cX6_below 5 (some .int)]
def wsX6_in : List Cond := .code yX6_in cX6_in 4 (some .int) :: ((wsX6_in_r1 ++ wsX6_in_r2) ++ wsX60)
def wsX6_used_r1 : List Cond := [Cond.constant RX6 48 (-100001), Cond.fieldLink RX6 9 "GraveRowsModel" "now" "[I", Cond.constant RX6 83 (-100006), Cond.methodLink RX6 115 yX6_isGood, Cond.static yX6_isGood, Cond.initialized RX6, Cond.code yX6_isGood cX6_isGood 1 (some .boolean), Cond.methodLink RX6 44 yX6_within, Cond.static yX6_within, Cond.code yX6_within cX6_within 3 (some .boolean), Cond.methodLink RX6 49 yX6_finding, Cond.instanceMethod yX6_finding, Cond.selects RX6 yX6_finding yX6_finding, Cond.code yX6_finding cX6_finding 2 (some .int), Cond.fieldLink RX6 40 "GraveRowsModel" "findings" "I", Cond.methodLink RX6 122 yX6_has, Cond.instanceMethod yX6_has, Cond.selects RX6 yX6_has yX6_has, Cond.code yX6_has cX6_has 3 (some .boolean), Cond.methodLink RX6 146 yX6_yearOf, Cond.instanceMethod yX6_yearOf, Cond.selects RX6 yX6_yearOf yX6_yearOf, Cond.code yX6_yearOf cX6_yearOf 6 (some .int), Cond.methodLink RX6 73 Lib.Math.max.name]
def wsX6_used_r2 : List Cond := [Cond.static Lib.Math.max.name, Cond.initialized "java/lang/Math", Cond.code Lib.Math.max.name Lib.Math.max.code 2 (some .int), Cond.methodLink RX6 143 Lib.Math.min.name, Cond.static Lib.Math.min.name, Cond.code Lib.Math.min.name Lib.Math.min.code 2 (some .int), Cond.methodLink RX6 79 yX6_below, Cond.instanceMethod yX6_below, Cond.selects RX6 yX6_below yX6_below, Cond.code yX6_below cX6_below 5 (some .int)]
def wsX6_used : List Cond := .code yX6_used cX6_used 7 (some .int) :: ((wsX6_used_r1 ++ wsX6_used_r2) ++ wsX60)
def wsX6_familyOf : List Cond := .code yX6_familyOf cX6_familyOf 8 (some .int) :: ([.fieldLink RX6 9 "GraveRowsModel" "now" "[I", .methodLink RX6 150 Lib.Math.abs.name, .static Lib.Math.abs.name, .initialized "java/lang/Math", .code Lib.Math.abs.name Lib.Math.abs.code 1 (some .int)] ++ wsX60)
def wsX6_leastOf : List Cond := .code yX6_leastOf cX6_leastOf 3 (some .int) :: ([])
def wsX6_family_r1 : List Cond := [Cond.constant RX6 48 (-100001), Cond.methodLink RX6 54 yX6_isGrave, Cond.instanceMethod yX6_isGrave, Cond.selects RX6 yX6_isGrave yX6_isGrave, Cond.initialized RX6, Cond.code yX6_isGrave cX6_isGrave 2 (some .boolean), Cond.fieldLink RX6 9 "GraveRowsModel" "now" "[I", Cond.methodLink RX6 44 yX6_within, Cond.static yX6_within, Cond.code yX6_within cX6_within 3 (some .boolean), Cond.methodLink RX6 49 yX6_finding, Cond.instanceMethod yX6_finding, Cond.selects RX6 yX6_finding yX6_finding, Cond.code yX6_finding cX6_finding 2 (some .int), Cond.fieldLink RX6 40 "GraveRowsModel" "findings" "I", Cond.methodLink RX6 153 yX6_familyOf, Cond.instanceMethod yX6_familyOf, Cond.selects RX6 yX6_familyOf yX6_familyOf, Cond.code yX6_familyOf cX6_familyOf 8 (some .int), Cond.methodLink RX6 150 Lib.Math.abs.name, Cond.static Lib.Math.abs.name, Cond.initialized "java/lang/Math", Cond.code Lib.Math.abs.name Lib.Math.abs.code 1 (some .int), Cond.methodLink RX6 156 yX6_leastOf]
def wsX6_family_r2 : List Cond := [Cond.instanceMethod yX6_leastOf, Cond.selects RX6 yX6_leastOf yX6_leastOf, Cond.code yX6_leastOf cX6_leastOf 3 (some .int)]
def wsX6_family : List Cond := .code yX6_family cX6_family 3 (some .int) :: ((wsX6_family_r1 ++ wsX6_family_r2) ++ wsX60)
def wsX6_families : List Cond := .code yX6_families cX6_families 4 (some .int) :: ([.constant RX6 48 (-100001), .fieldLink RX6 9 "GraveRowsModel" "now" "[I", .methodLink RX6 44 yX6_within, .static yX6_within, .initialized RX6, .code yX6_within cX6_within 3 (some .boolean), .methodLink RX6 49 yX6_finding, .instanceMethod yX6_finding, .selects RX6 yX6_finding yX6_finding, .code yX6_finding cX6_finding 2 (some .int), .fieldLink RX6 40 "GraveRowsModel" "findings" "I", .methodLink RX6 153 yX6_familyOf, .instanceMethod yX6_familyOf, .selects RX6 yX6_familyOf yX6_familyOf, .code yX6_familyOf cX6_familyOf 8 (some .int), .methodLink RX6 150 Lib.Math.abs.name, .static Lib.Math.abs.name, .initialized "java/lang/Math", .code Lib.Math.abs.name Lib.Math.abs.code 1 (some .int), .methodLink RX6 156 yX6_leastOf, .instanceMethod yX6_leastOf, .selects RX6 yX6_leastOf yX6_leastOf, .code yX6_leastOf cX6_leastOf 3 (some .int)] ++ wsX60)
def wsX6_both : List Cond := .code yX6_both cX6_both 3 (some .int) :: ([.fieldLink RX6 9 "GraveRowsModel" "now" "[I", .methodLink RX6 63 yX6_many, .static yX6_many, .initialized RX6, .code yX6_many cX6_many 3 (some .int)] ++ wsX60)
def wsX6_either : List Cond := .code yX6_either cX6_either 4 (some .int) :: ([.fieldLink RX6 9 "GraveRowsModel" "now" "[I", .methodLink RX6 63 yX6_many, .static yX6_many, .initialized RX6, .code yX6_many cX6_many 3 (some .int)] ++ wsX60)
def wsX6_like_r1 : List Cond := [Cond.constant RX6 48 (-100001), Cond.methodLink RX6 54 yX6_isGrave, Cond.instanceMethod yX6_isGrave, Cond.selects RX6 yX6_isGrave yX6_isGrave, Cond.initialized RX6, Cond.code yX6_isGrave cX6_isGrave 2 (some .boolean), Cond.fieldLink RX6 9 "GraveRowsModel" "now" "[I", Cond.methodLink RX6 44 yX6_within, Cond.static yX6_within, Cond.code yX6_within cX6_within 3 (some .boolean), Cond.methodLink RX6 49 yX6_finding, Cond.instanceMethod yX6_finding, Cond.selects RX6 yX6_finding yX6_finding, Cond.code yX6_finding cX6_finding 2 (some .int), Cond.fieldLink RX6 40 "GraveRowsModel" "findings" "I", Cond.methodLink RX6 159 yX6_both, Cond.instanceMethod yX6_both, Cond.selects RX6 yX6_both yX6_both, Cond.code yX6_both cX6_both 3 (some .int), Cond.methodLink RX6 63 yX6_many, Cond.static yX6_many, Cond.code yX6_many cX6_many 3 (some .int), Cond.methodLink RX6 162 yX6_either, Cond.instanceMethod yX6_either]
def wsX6_like_r2 : List Cond := [Cond.selects RX6 yX6_either yX6_either, Cond.code yX6_either cX6_either 4 (some .int)]
def wsX6_like : List Cond := .code yX6_like cX6_like 7 (some .int) :: ((wsX6_like_r1 ++ wsX6_like_r2) ++ wsX60)
def wsX6_nearest_r1 : List Cond := [Cond.constant RX6 48 (-100001), Cond.fieldLink RX6 9 "GraveRowsModel" "now" "[I", Cond.constant RX6 83 (-100006), Cond.methodLink RX6 54 yX6_isGrave, Cond.instanceMethod yX6_isGrave, Cond.selects RX6 yX6_isGrave yX6_isGrave, Cond.initialized RX6, Cond.code yX6_isGrave cX6_isGrave 2 (some .boolean), Cond.methodLink RX6 44 yX6_within, Cond.static yX6_within, Cond.code yX6_within cX6_within 3 (some .boolean), Cond.methodLink RX6 49 yX6_finding, Cond.instanceMethod yX6_finding, Cond.selects RX6 yX6_finding yX6_finding, Cond.code yX6_finding cX6_finding 2 (some .int), Cond.fieldLink RX6 40 "GraveRowsModel" "findings" "I", Cond.methodLink RX6 159 yX6_both, Cond.instanceMethod yX6_both, Cond.selects RX6 yX6_both yX6_both, Cond.code yX6_both cX6_both 3 (some .int), Cond.methodLink RX6 63 yX6_many, Cond.static yX6_many, Cond.code yX6_many cX6_many 3 (some .int), Cond.methodLink RX6 162 yX6_either]
def wsX6_nearest_r2 : List Cond := [Cond.instanceMethod yX6_either, Cond.selects RX6 yX6_either yX6_either, Cond.code yX6_either cX6_either 4 (some .int)]
def wsX6_nearest : List Cond := .code yX6_nearest cX6_nearest 4 (some .int) :: ((wsX6_nearest_r1 ++ wsX6_nearest_r2) ++ wsX60)
def wsX6_isMark : List Cond := .code yX6_isMark cX6_isMark 1 (some .boolean) :: ([.methodLink RX6 44 yX6_within, .static yX6_within, .initialized RX6, .code yX6_within cX6_within 3 (some .boolean)])
def wsX6_mark : List Cond := .code yX6_mark cX6_mark 6 (some .int) :: ([.constant RX6 48 (-100001), .fieldLink RX6 9 "GraveRowsModel" "now" "[I", .methodLink RX6 54 yX6_isGrave, .instanceMethod yX6_isGrave, .selects RX6 yX6_isGrave yX6_isGrave, .initialized RX6, .code yX6_isGrave cX6_isGrave 2 (some .boolean), .methodLink RX6 44 yX6_within, .static yX6_within, .code yX6_within cX6_within 3 (some .boolean), .methodLink RX6 165 yX6_isMark, .static yX6_isMark, .code yX6_isMark cX6_isMark 1 (some .boolean), .methodLink RX6 49 yX6_finding, .instanceMethod yX6_finding, .selects RX6 yX6_finding yX6_finding, .code yX6_finding cX6_finding 2 (some .int), .fieldLink RX6 40 "GraveRowsModel" "findings" "I"] ++ wsX60)
def wsX6_weigh : List Cond := .code yX6_weigh cX6_weigh 6 (some .int) :: ([.constant RX6 48 (-100001), .fieldLink RX6 9 "GraveRowsModel" "now" "[I", .methodLink RX6 165 yX6_isMark, .static yX6_isMark, .initialized RX6, .code yX6_isMark cX6_isMark 1 (some .boolean), .methodLink RX6 44 yX6_within, .static yX6_within, .code yX6_within cX6_within 3 (some .boolean), .methodLink RX6 49 yX6_finding, .instanceMethod yX6_finding, .selects RX6 yX6_finding yX6_finding, .code yX6_finding cX6_finding 2 (some .int), .fieldLink RX6 40 "GraveRowsModel" "findings" "I"] ++ wsX60)
def wsX6_shareOf : List Cond := .code yX6_shareOf cX6_shareOf 8 (some .long) :: ([.fieldLink RX6 9 "GraveRowsModel" "now" "[I"] ++ wsX60)
def wsX6_share : List Cond := .code yX6_share cX6_share 3 (some .long) :: ([.constant RX6 48 (-100001), .fieldLink RX6 9 "GraveRowsModel" "now" "[I", .constant RX6 58 (-100004), .methodLink RX6 54 yX6_isGrave, .instanceMethod yX6_isGrave, .selects RX6 yX6_isGrave yX6_isGrave, .initialized RX6, .code yX6_isGrave cX6_isGrave 2 (some .boolean), .methodLink RX6 44 yX6_within, .static yX6_within, .code yX6_within cX6_within 3 (some .boolean), .methodLink RX6 49 yX6_finding, .instanceMethod yX6_finding, .selects RX6 yX6_finding yX6_finding, .code yX6_finding cX6_finding 2 (some .int), .fieldLink RX6 40 "GraveRowsModel" "findings" "I", .methodLink RX6 168 yX6_shareOf, .instanceMethod yX6_shareOf, .selects RX6 yX6_shareOf yX6_shareOf, .code yX6_shareOf cX6_shareOf 8 (some .long)] ++ wsX60)
def wsX6_people : List Cond := .code yX6_people cX6_people 9 (some .int) :: ([.constant RX6 48 (-100001), .fieldLink RX6 9 "GraveRowsModel" "now" "[I", .methodLink RX6 44 yX6_within, .static yX6_within, .initialized RX6, .code yX6_within cX6_within 3 (some .boolean), .methodLink RX6 49 yX6_finding, .instanceMethod yX6_finding, .selects RX6 yX6_finding yX6_finding, .code yX6_finding cX6_finding 2 (some .int), .fieldLink RX6 40 "GraveRowsModel" "findings" "I", .methodLink RX6 168 yX6_shareOf, .instanceMethod yX6_shareOf, .selects RX6 yX6_shareOf yX6_shareOf, .code yX6_shareOf cX6_shareOf 8 (some .long)] ++ wsX60)
def wsX6_keep : List Cond := .code yX6_keep cX6_keep 2 (some .int) :: ([.fieldLink RX6 13 "GraveRowsModel" "kept" "[I", .fieldLink RX6 9 "GraveRowsModel" "now" "[I", .fieldLink RX6 172 "GraveRowsModel" "isKept" "Z"] ++ wsX60)
def wsX6_back : List Cond := .code yX6_back cX6_back 2 (some .int) :: ([.fieldLink RX6 172 "GraveRowsModel" "isKept" "Z", .constant RX6 83 (-100006), .fieldLink RX6 9 "GraveRowsModel" "now" "[I", .fieldLink RX6 13 "GraveRowsModel" "kept" "[I", .methodLink RX6 49 yX6_finding, .instanceMethod yX6_finding, .selects RX6 yX6_finding yX6_finding, .initialized RX6, .code yX6_finding cX6_finding 2 (some .int), .fieldLink RX6 40 "GraveRowsModel" "findings" "I"] ++ wsX60)
def wsX6_told : List Cond := .code yX6_told cX6_told 4 (some .int) :: ([.constant RX6 48 (-100001), .fieldLink RX6 9 "GraveRowsModel" "now" "[I", .fieldLink RX6 40 "GraveRowsModel" "findings" "I", .methodLink RX6 44 yX6_within, .static yX6_within, .initialized RX6, .code yX6_within cX6_within 3 (some .boolean), .methodLink RX6 49 yX6_finding, .instanceMethod yX6_finding, .selects RX6 yX6_finding yX6_finding, .code yX6_finding cX6_finding 2 (some .int), .methodLink RX6 63 yX6_many, .static yX6_many, .code yX6_many cX6_many 3 (some .int)] ++ wsX60)
def wsJ9_abs_0f7a4 : List Cond := .code yJ9_abs_0f7a4 cJ9_abs_0f7a4 1 (some .int) :: ([])
def wsJ9_max_7cf53 : List Cond := .code yJ9_max_7cf53 cJ9_max_7cf53 2 (some .int) :: ([])
def wsJ9_min_7cf53 : List Cond := .code yJ9_min_7cf53 cJ9_min_7cf53 2 (some .int) :: ([])
abbrev vwCl : List vw_C := [(RX0, TX0, 4), (RX1, TX1, 9), (RX2, TX2, 7), (RX3, TX3, 8), (RX4, TX4, 3), (RX5, TX5, 7), (RX6, TX6, 16)]
end
section
theorem dX0_init_0 : decode cX0_init 0 = .ok (.aload_n 0, 1) := by decide +kernel
theorem dX0_init_1 : decode cX0_init 1 = .ok (.invokespecial 3, 3) := by decide +kernel
theorem dX0_init_4 : decode cX0_init 4 = .ok (.aload_n 0, 1) := by decide +kernel
theorem dX0_init_5 : decode cX0_init 5 = .ok (.bipush 8, 2) := by decide +kernel
theorem dX0_init_7 : decode cX0_init 7 = .ok (.newarray .int, 2) := by decide +kernel
theorem dX0_init_9 : decode cX0_init 9 = .ok (.putfield 9, 3) := by decide +kernel
theorem dX0_init_12 : decode cX0_init 12 = .ok (.aload_n 0, 1) := by decide +kernel
theorem dX0_init_13 : decode cX0_init 13 = .ok (.bipush 8, 2) := by decide +kernel
theorem dX0_init_15 : decode cX0_init 15 = .ok (.newarray .boolean, 2) := by decide +kernel
theorem dX0_init_17 : decode cX0_init 17 = .ok (.putfield 15, 3) := by decide +kernel
theorem dX0_init_20 : decode cX0_init 20 = .ok (.return_, 1) := by decide +kernel
set_option maxRecDepth 20000 in
theorem ggX0_choose_X3_goingOnAt : GoodIn wsX0_choose wsX3_goingOnAt := goodIn_r _ [10, 11, 12, 13, 14, 15, 9, 16, 17, 18, 19, 20, 21, 22, 23, 24, 30, 31, 32, 33, 34, 35, 36, 37] (by decide +kernel) (by decide +kernel)
set_option maxRecDepth 20000 in
theorem gX0_choose_X3_goingOnAt : GoodIn wsX0_choose (wsV RX0 29 RX3 yX3_goingOnAt wsX3_goingOnAt) := goodIn_app (goodIn_of _ (by decide +kernel)) ggX0_choose_X3_goingOnAt
set_option maxRecDepth 20000 in
theorem ggX0_choose_X0_cheapestFree : GoodIn wsX0_choose wsX0_cheapestFree := goodIn_r _ [29, 2, 5, 4, 38, 39, 40, 41] (by decide +kernel) (by decide +kernel)
set_option maxRecDepth 20000 in
theorem gX0_choose_X0_cheapestFree : GoodIn wsX0_choose (wsV RX0 33 RX0 yX0_cheapestFree wsX0_cheapestFree) := goodIn_app (goodIn_of _ (by decide +kernel)) ggX0_choose_X0_cheapestFree
theorem dX0_choose_0 : decode cX0_choose 0 = .ok (.aload_n 0, 1) := by decide +kernel
theorem dX0_choose_1 : decode cX0_choose 1 = .ok (.aload_n 1, 1) := by decide +kernel
theorem dX0_choose_2 : decode cX0_choose 2 = .ok (.getfield 19, 3) := by decide +kernel
theorem dX0_choose_5 : decode cX0_choose 5 = .ok (.putfield 25, 3) := by decide +kernel
theorem dX0_choose_8 : decode cX0_choose 8 = .ok (.aload_n 0, 1) := by decide +kernel
theorem dX0_choose_9 : decode cX0_choose 9 = .ok (.iconst 0, 1) := by decide +kernel
theorem dX0_choose_10 : decode cX0_choose 10 = .ok (.putfield 26, 3) := by decide +kernel
theorem dX0_choose_13 : decode cX0_choose 13 = .ok (.iconst 0, 1) := by decide +kernel
theorem dX0_choose_14 : decode cX0_choose 14 = .ok (.istore_n 3, 1) := by decide +kernel
theorem dX0_choose_15 : decode cX0_choose 15 = .ok (.iload_n 3, 1) := by decide +kernel
theorem dX0_choose_16 : decode cX0_choose 16 = .ok (.aload_n 0, 1) := by decide +kernel
theorem dX0_choose_17 : decode cX0_choose 17 = .ok (.getfield 25, 3) := by decide +kernel
theorem dX0_choose_20 : decode cX0_choose 20 = .ok (.if_icmp .ge 27, 3) := by decide +kernel
theorem dX0_choose_23 : decode cX0_choose 23 = .ok (.aload_n 0, 1) := by decide +kernel
theorem dX0_choose_24 : decode cX0_choose 24 = .ok (.getfield 9, 3) := by decide +kernel
theorem dX0_choose_27 : decode cX0_choose 27 = .ok (.iload_n 3, 1) := by decide +kernel
theorem dX0_choose_28 : decode cX0_choose 28 = .ok (.aload_n 1, 1) := by decide +kernel
theorem dX0_choose_29 : decode cX0_choose 29 = .ok (.iload_n 3, 1) := by decide +kernel
theorem dX0_choose_30 : decode cX0_choose 30 = .ok (.invokevirtual 29, 3) := by decide +kernel
theorem dX0_choose_33 : decode cX0_choose 33 = .ok (.iastore, 1) := by decide +kernel
theorem dX0_choose_34 : decode cX0_choose 34 = .ok (.aload_n 0, 1) := by decide +kernel
theorem dX0_choose_35 : decode cX0_choose 35 = .ok (.getfield 15, 3) := by decide +kernel
theorem dX0_choose_38 : decode cX0_choose 38 = .ok (.iload_n 3, 1) := by decide +kernel
theorem dX0_choose_39 : decode cX0_choose 39 = .ok (.iconst 0, 1) := by decide +kernel
theorem dX0_choose_40 : decode cX0_choose 40 = .ok (.bastore, 1) := by decide +kernel
theorem dX0_choose_41 : decode cX0_choose 41 = .ok (.iinc 3 1, 3) := by decide +kernel
theorem dX0_choose_44 : decode cX0_choose 44 = .ok (.goto (-29), 3) := by decide +kernel
theorem dX0_choose_47 : decode cX0_choose 47 = .ok (.iconst 1, 1) := by decide +kernel
theorem dX0_choose_48 : decode cX0_choose 48 = .ok (.istore_n 3, 1) := by decide +kernel
theorem dX0_choose_49 : decode cX0_choose 49 = .ok (.iload_n 3, 1) := by decide +kernel
theorem dX0_choose_50 : decode cX0_choose 50 = .ok (.iload_n 2, 1) := by decide +kernel
theorem dX0_choose_51 : decode cX0_choose 51 = .ok (.if_icmp .ge 44, 3) := by decide +kernel
theorem dX0_choose_54 : decode cX0_choose 54 = .ok (.aload_n 0, 1) := by decide +kernel
theorem dX0_choose_55 : decode cX0_choose 55 = .ok (.invokevirtual 33, 3) := by decide +kernel
theorem dX0_choose_58 : decode cX0_choose 58 = .ok (.istore 4, 2) := by decide +kernel
theorem dX0_choose_60 : decode cX0_choose 60 = .ok (.iload 4, 2) := by decide +kernel
theorem dX0_choose_62 : decode cX0_choose 62 = .ok (.ifCond .le 27, 3) := by decide +kernel
theorem dX0_choose_65 : decode cX0_choose 65 = .ok (.aload_n 0, 1) := by decide +kernel
theorem dX0_choose_66 : decode cX0_choose 66 = .ok (.getfield 15, 3) := by decide +kernel
theorem dX0_choose_69 : decode cX0_choose 69 = .ok (.iload 4, 2) := by decide +kernel
theorem dX0_choose_71 : decode cX0_choose 71 = .ok (.iconst 1, 1) := by decide +kernel
theorem dX0_choose_72 : decode cX0_choose 72 = .ok (.bastore, 1) := by decide +kernel
theorem dX0_choose_73 : decode cX0_choose 73 = .ok (.aload_n 0, 1) := by decide +kernel
theorem dX0_choose_74 : decode cX0_choose 74 = .ok (.dup, 1) := by decide +kernel
theorem dX0_choose_75 : decode cX0_choose 75 = .ok (.getfield 26, 3) := by decide +kernel
theorem dX0_choose_78 : decode cX0_choose 78 = .ok (.aload_n 0, 1) := by decide +kernel
theorem dX0_choose_79 : decode cX0_choose 79 = .ok (.getfield 9, 3) := by decide +kernel
theorem dX0_choose_82 : decode cX0_choose 82 = .ok (.iload 4, 2) := by decide +kernel
theorem dX0_choose_84 : decode cX0_choose 84 = .ok (.iaload, 1) := by decide +kernel
theorem dX0_choose_85 : decode cX0_choose 85 = .ok (.iadd, 1) := by decide +kernel
theorem dX0_choose_86 : decode cX0_choose 86 = .ok (.putfield 26, 3) := by decide +kernel
theorem dX0_choose_89 : decode cX0_choose 89 = .ok (.iinc 3 1, 3) := by decide +kernel
theorem dX0_choose_92 : decode cX0_choose 92 = .ok (.goto (-43), 3) := by decide +kernel
theorem dX0_choose_95 : decode cX0_choose 95 = .ok (.return_, 1) := by decide +kernel
theorem dX0_cheapestFree_0 : decode cX0_cheapestFree 0 = .ok (.iconst 0, 1) := by decide +kernel
theorem dX0_cheapestFree_1 : decode cX0_cheapestFree 1 = .ok (.istore_n 1, 1) := by decide +kernel
theorem dX0_cheapestFree_2 : decode cX0_cheapestFree 2 = .ok (.iconst 1, 1) := by decide +kernel
theorem dX0_cheapestFree_3 : decode cX0_cheapestFree 3 = .ok (.istore_n 2, 1) := by decide +kernel
theorem dX0_cheapestFree_4 : decode cX0_cheapestFree 4 = .ok (.iload_n 2, 1) := by decide +kernel
theorem dX0_cheapestFree_5 : decode cX0_cheapestFree 5 = .ok (.aload_n 0, 1) := by decide +kernel
theorem dX0_cheapestFree_6 : decode cX0_cheapestFree 6 = .ok (.getfield 25, 3) := by decide +kernel
theorem dX0_cheapestFree_9 : decode cX0_cheapestFree 9 = .ok (.if_icmp .ge 39, 3) := by decide +kernel
theorem dX0_cheapestFree_12 : decode cX0_cheapestFree 12 = .ok (.aload_n 0, 1) := by decide +kernel
theorem dX0_cheapestFree_13 : decode cX0_cheapestFree 13 = .ok (.getfield 15, 3) := by decide +kernel
theorem dX0_cheapestFree_16 : decode cX0_cheapestFree 16 = .ok (.iload_n 2, 1) := by decide +kernel
theorem dX0_cheapestFree_17 : decode cX0_cheapestFree 17 = .ok (.baload, 1) := by decide +kernel
theorem dX0_cheapestFree_18 : decode cX0_cheapestFree 18 = .ok (.ifCond .ne 24, 3) := by decide +kernel
theorem dX0_cheapestFree_21 : decode cX0_cheapestFree 21 = .ok (.iload_n 1, 1) := by decide +kernel
theorem dX0_cheapestFree_22 : decode cX0_cheapestFree 22 = .ok (.ifCond .eq 18, 3) := by decide +kernel
theorem dX0_cheapestFree_25 : decode cX0_cheapestFree 25 = .ok (.aload_n 0, 1) := by decide +kernel
theorem dX0_cheapestFree_26 : decode cX0_cheapestFree 26 = .ok (.getfield 9, 3) := by decide +kernel
theorem dX0_cheapestFree_29 : decode cX0_cheapestFree 29 = .ok (.iload_n 2, 1) := by decide +kernel
theorem dX0_cheapestFree_30 : decode cX0_cheapestFree 30 = .ok (.iaload, 1) := by decide +kernel
theorem dX0_cheapestFree_31 : decode cX0_cheapestFree 31 = .ok (.aload_n 0, 1) := by decide +kernel
theorem dX0_cheapestFree_32 : decode cX0_cheapestFree 32 = .ok (.getfield 9, 3) := by decide +kernel
theorem dX0_cheapestFree_35 : decode cX0_cheapestFree 35 = .ok (.iload_n 1, 1) := by decide +kernel
theorem dX0_cheapestFree_36 : decode cX0_cheapestFree 36 = .ok (.iaload, 1) := by decide +kernel
theorem dX0_cheapestFree_37 : decode cX0_cheapestFree 37 = .ok (.if_icmp .ge 5, 3) := by decide +kernel
theorem dX0_cheapestFree_40 : decode cX0_cheapestFree 40 = .ok (.iload_n 2, 1) := by decide +kernel
theorem dX0_cheapestFree_41 : decode cX0_cheapestFree 41 = .ok (.istore_n 1, 1) := by decide +kernel
theorem dX0_cheapestFree_42 : decode cX0_cheapestFree 42 = .ok (.iinc 2 1, 3) := by decide +kernel
theorem dX0_cheapestFree_45 : decode cX0_cheapestFree 45 = .ok (.goto (-41), 3) := by decide +kernel
theorem dX0_cheapestFree_48 : decode cX0_cheapestFree 48 = .ok (.iload_n 1, 1) := by decide +kernel
theorem dX0_cheapestFree_49 : decode cX0_cheapestFree 49 = .ok (.ireturn, 1) := by decide +kernel
theorem dX0_beginOf_0 : decode cX0_beginOf 0 = .ok (.iconst 0, 1) := by decide +kernel
theorem dX0_beginOf_1 : decode cX0_beginOf 1 = .ok (.istore_n 2, 1) := by decide +kernel
theorem dX0_beginOf_2 : decode cX0_beginOf 2 = .ok (.iconst 1, 1) := by decide +kernel
theorem dX0_beginOf_3 : decode cX0_beginOf 3 = .ok (.istore_n 3, 1) := by decide +kernel
theorem dX0_beginOf_4 : decode cX0_beginOf 4 = .ok (.iload_n 3, 1) := by decide +kernel
theorem dX0_beginOf_5 : decode cX0_beginOf 5 = .ok (.aload_n 0, 1) := by decide +kernel
theorem dX0_beginOf_6 : decode cX0_beginOf 6 = .ok (.getfield 25, 3) := by decide +kernel
theorem dX0_beginOf_9 : decode cX0_beginOf 9 = .ok (.if_icmp .ge 28, 3) := by decide +kernel
theorem dX0_beginOf_12 : decode cX0_beginOf 12 = .ok (.aload_n 0, 1) := by decide +kernel
theorem dX0_beginOf_13 : decode cX0_beginOf 13 = .ok (.getfield 15, 3) := by decide +kernel
theorem dX0_beginOf_16 : decode cX0_beginOf 16 = .ok (.iload_n 3, 1) := by decide +kernel
theorem dX0_beginOf_17 : decode cX0_beginOf 17 = .ok (.baload, 1) := by decide +kernel
theorem dX0_beginOf_18 : decode cX0_beginOf 18 = .ok (.ifCond .eq 13, 3) := by decide +kernel
theorem dX0_beginOf_21 : decode cX0_beginOf 21 = .ok (.iinc 2 1, 3) := by decide +kernel
theorem dX0_beginOf_24 : decode cX0_beginOf 24 = .ok (.iload_n 2, 1) := by decide +kernel
theorem dX0_beginOf_25 : decode cX0_beginOf 25 = .ok (.iload_n 1, 1) := by decide +kernel
theorem dX0_beginOf_26 : decode cX0_beginOf 26 = .ok (.if_icmp .ne 5, 3) := by decide +kernel
theorem dX0_beginOf_29 : decode cX0_beginOf 29 = .ok (.iload_n 3, 1) := by decide +kernel
theorem dX0_beginOf_30 : decode cX0_beginOf 30 = .ok (.ireturn, 1) := by decide +kernel
theorem dX0_beginOf_31 : decode cX0_beginOf 31 = .ok (.iinc 3 1, 3) := by decide +kernel
theorem dX0_beginOf_34 : decode cX0_beginOf 34 = .ok (.goto (-30), 3) := by decide +kernel
theorem dX0_beginOf_37 : decode cX0_beginOf 37 = .ok (.iconst 0, 1) := by decide +kernel
theorem dX0_beginOf_38 : decode cX0_beginOf 38 = .ok (.ireturn, 1) := by decide +kernel
theorem dX1_init_0 : decode cX1_init 0 = .ok (.aload_n 0, 1) := by decide +kernel
theorem dX1_init_1 : decode cX1_init 1 = .ok (.invokespecial 3, 3) := by decide +kernel
theorem dX1_init_4 : decode cX1_init 4 = .ok (.return_, 1) := by decide +kernel
theorem dX1_become_0 : decode cX1_become 0 = .ok (.aload_n 0, 1) := by decide +kernel
theorem dX1_become_1 : decode cX1_become 1 = .ok (.aload_n 1, 1) := by decide +kernel
theorem dX1_become_2 : decode cX1_become 2 = .ok (.getfield 9, 3) := by decide +kernel
theorem dX1_become_5 : decode cX1_become 5 = .ok (.putfield 9, 3) := by decide +kernel
theorem dX1_become_8 : decode cX1_become 8 = .ok (.aload_n 0, 1) := by decide +kernel
theorem dX1_become_9 : decode cX1_become 9 = .ok (.aload_n 1, 1) := by decide +kernel
theorem dX1_become_10 : decode cX1_become 10 = .ok (.getfield 15, 3) := by decide +kernel
theorem dX1_become_13 : decode cX1_become 13 = .ok (.putfield 15, 3) := by decide +kernel
theorem dX1_become_16 : decode cX1_become 16 = .ok (.aload_n 0, 1) := by decide +kernel
theorem dX1_become_17 : decode cX1_become 17 = .ok (.aload_n 1, 1) := by decide +kernel
theorem dX1_become_18 : decode cX1_become 18 = .ok (.getfield 18, 3) := by decide +kernel
theorem dX1_become_21 : decode cX1_become 21 = .ok (.putfield 18, 3) := by decide +kernel
theorem dX1_become_24 : decode cX1_become 24 = .ok (.aload_n 0, 1) := by decide +kernel
theorem dX1_become_25 : decode cX1_become 25 = .ok (.aload_n 1, 1) := by decide +kernel
theorem dX1_become_26 : decode cX1_become 26 = .ok (.getfield 21, 3) := by decide +kernel
theorem dX1_become_29 : decode cX1_become 29 = .ok (.putfield 21, 3) := by decide +kernel
theorem dX1_become_32 : decode cX1_become 32 = .ok (.aload_n 0, 1) := by decide +kernel
theorem dX1_become_33 : decode cX1_become 33 = .ok (.aload_n 1, 1) := by decide +kernel
theorem dX1_become_34 : decode cX1_become 34 = .ok (.getfield 24, 3) := by decide +kernel
theorem dX1_become_37 : decode cX1_become 37 = .ok (.putfield 24, 3) := by decide +kernel
theorem dX1_become_40 : decode cX1_become 40 = .ok (.aload_n 0, 1) := by decide +kernel
theorem dX1_become_41 : decode cX1_become 41 = .ok (.aload_n 1, 1) := by decide +kernel
theorem dX1_become_42 : decode cX1_become 42 = .ok (.getfield 27, 3) := by decide +kernel
theorem dX1_become_45 : decode cX1_become 45 = .ok (.putfield 27, 3) := by decide +kernel
theorem dX1_become_48 : decode cX1_become 48 = .ok (.aload_n 0, 1) := by decide +kernel
theorem dX1_become_49 : decode cX1_become 49 = .ok (.aload_n 1, 1) := by decide +kernel
theorem dX1_become_50 : decode cX1_become 50 = .ok (.getfield 30, 3) := by decide +kernel
theorem dX1_become_53 : decode cX1_become 53 = .ok (.putfield 30, 3) := by decide +kernel
theorem dX1_become_56 : decode cX1_become 56 = .ok (.aload_n 0, 1) := by decide +kernel
theorem dX1_become_57 : decode cX1_become 57 = .ok (.aload_n 1, 1) := by decide +kernel
theorem dX1_become_58 : decode cX1_become 58 = .ok (.getfield 33, 3) := by decide +kernel
theorem dX1_become_61 : decode cX1_become 61 = .ok (.putfield 33, 3) := by decide +kernel
theorem dX1_become_64 : decode cX1_become 64 = .ok (.aload_n 0, 1) := by decide +kernel
theorem dX1_become_65 : decode cX1_become 65 = .ok (.aload_n 1, 1) := by decide +kernel
theorem dX1_become_66 : decode cX1_become 66 = .ok (.getfield 36, 3) := by decide +kernel
theorem dX1_become_69 : decode cX1_become 69 = .ok (.putfield 36, 3) := by decide +kernel
theorem dX1_become_72 : decode cX1_become 72 = .ok (.return_, 1) := by decide +kernel
theorem dX1_beginAs_0 : decode cX1_beginAs 0 = .ok (.aload_n 0, 1) := by decide +kernel
theorem dX1_beginAs_1 : decode cX1_beginAs 1 = .ok (.iload_n 1, 1) := by decide +kernel
theorem dX1_beginAs_2 : decode cX1_beginAs 2 = .ok (.putfield 9, 3) := by decide +kernel
theorem dX1_beginAs_5 : decode cX1_beginAs 5 = .ok (.aload_n 0, 1) := by decide +kernel
theorem dX1_beginAs_6 : decode cX1_beginAs 6 = .ok (.iload_n 2, 1) := by decide +kernel
theorem dX1_beginAs_7 : decode cX1_beginAs 7 = .ok (.putfield 15, 3) := by decide +kernel
theorem dX1_beginAs_10 : decode cX1_beginAs 10 = .ok (.aload_n 0, 1) := by decide +kernel
theorem dX1_beginAs_11 : decode cX1_beginAs 11 = .ok (.iload_n 3, 1) := by decide +kernel
theorem dX1_beginAs_12 : decode cX1_beginAs 12 = .ok (.putfield 18, 3) := by decide +kernel
theorem dX1_beginAs_15 : decode cX1_beginAs 15 = .ok (.aload_n 0, 1) := by decide +kernel
theorem dX1_beginAs_16 : decode cX1_beginAs 16 = .ok (.iconst 0, 1) := by decide +kernel
theorem dX1_beginAs_17 : decode cX1_beginAs 17 = .ok (.putfield 21, 3) := by decide +kernel
theorem dX1_beginAs_20 : decode cX1_beginAs 20 = .ok (.aload_n 0, 1) := by decide +kernel
theorem dX1_beginAs_21 : decode cX1_beginAs 21 = .ok (.sipush (-5000), 3) := by decide +kernel
theorem dX1_beginAs_24 : decode cX1_beginAs 24 = .ok (.putfield 24, 3) := by decide +kernel
theorem dX1_beginAs_27 : decode cX1_beginAs 27 = .ok (.aload_n 0, 1) := by decide +kernel
theorem dX1_beginAs_28 : decode cX1_beginAs 28 = .ok (.sipush 5000, 3) := by decide +kernel
theorem dX1_beginAs_31 : decode cX1_beginAs 31 = .ok (.putfield 27, 3) := by decide +kernel
theorem dX1_beginAs_34 : decode cX1_beginAs 34 = .ok (.aload_n 0, 1) := by decide +kernel
theorem dX1_beginAs_35 : decode cX1_beginAs 35 = .ok (.iconst 0, 1) := by decide +kernel
theorem dX1_beginAs_36 : decode cX1_beginAs 36 = .ok (.putfield 30, 3) := by decide +kernel
theorem dX1_beginAs_39 : decode cX1_beginAs 39 = .ok (.aload_n 0, 1) := by decide +kernel
theorem dX1_beginAs_40 : decode cX1_beginAs 40 = .ok (.iconst 0, 1) := by decide +kernel
theorem dX1_beginAs_41 : decode cX1_beginAs 41 = .ok (.putfield 33, 3) := by decide +kernel
theorem dX1_beginAs_44 : decode cX1_beginAs 44 = .ok (.aload_n 0, 1) := by decide +kernel
theorem dX1_beginAs_45 : decode cX1_beginAs 45 = .ok (.iconst 0, 1) := by decide +kernel
theorem dX1_beginAs_46 : decode cX1_beginAs 46 = .ok (.putfield 36, 3) := by decide +kernel
theorem dX1_beginAs_49 : decode cX1_beginAs 49 = .ok (.return_, 1) := by decide +kernel
theorem dX1_isOfKind_0 : decode cX1_isOfKind 0 = .ok (.aload_n 0, 1) := by decide +kernel
theorem dX1_isOfKind_1 : decode cX1_isOfKind 1 = .ok (.getfield 9, 3) := by decide +kernel
theorem dX1_isOfKind_4 : decode cX1_isOfKind 4 = .ok (.istore_n 2, 1) := by decide +kernel
theorem dX1_isOfKind_5 : decode cX1_isOfKind 5 = .ok (.iconst 0, 1) := by decide +kernel
theorem dX1_isOfKind_6 : decode cX1_isOfKind 6 = .ok (.istore_n 3, 1) := by decide +kernel
theorem dX1_isOfKind_7 : decode cX1_isOfKind 7 = .ok (.iload_n 3, 1) := by decide +kernel
theorem dX1_isOfKind_8 : decode cX1_isOfKind 8 = .ok (.iconst 4, 1) := by decide +kernel
theorem dX1_isOfKind_9 : decode cX1_isOfKind 9 = .ok (.if_icmp .ge 26, 3) := by decide +kernel
theorem dX1_isOfKind_12 : decode cX1_isOfKind 12 = .ok (.iload_n 2, 1) := by decide +kernel
theorem dX1_isOfKind_13 : decode cX1_isOfKind 13 = .ok (.ifCond .lt 22, 3) := by decide +kernel
theorem dX1_isOfKind_16 : decode cX1_isOfKind 16 = .ok (.iload_n 2, 1) := by decide +kernel
theorem dX1_isOfKind_17 : decode cX1_isOfKind 17 = .ok (.iload_n 1, 1) := by decide +kernel
theorem dX1_isOfKind_18 : decode cX1_isOfKind 18 = .ok (.if_icmp .ne 5, 3) := by decide +kernel
theorem dX1_isOfKind_21 : decode cX1_isOfKind 21 = .ok (.iconst 1, 1) := by decide +kernel
theorem dX1_isOfKind_22 : decode cX1_isOfKind 22 = .ok (.ireturn, 1) := by decide +kernel
theorem dX1_isOfKind_23 : decode cX1_isOfKind 23 = .ok (.getstatic 39, 3) := by decide +kernel
theorem dX1_isOfKind_26 : decode cX1_isOfKind 26 = .ok (.iload_n 2, 1) := by decide +kernel
theorem dX1_isOfKind_27 : decode cX1_isOfKind 27 = .ok (.iaload, 1) := by decide +kernel
theorem dX1_isOfKind_28 : decode cX1_isOfKind 28 = .ok (.istore_n 2, 1) := by decide +kernel
theorem dX1_isOfKind_29 : decode cX1_isOfKind 29 = .ok (.iinc 3 1, 3) := by decide +kernel
theorem dX1_isOfKind_32 : decode cX1_isOfKind 32 = .ok (.goto (-25), 3) := by decide +kernel
theorem dX1_isOfKind_35 : decode cX1_isOfKind 35 = .ok (.iconst 0, 1) := by decide +kernel
theorem dX1_isOfKind_36 : decode cX1_isOfKind 36 = .ok (.ireturn, 1) := by decide +kernel
set_option maxRecDepth 20000 in
theorem ggX1_goodsSurelyLacked_X1_isOfKind : GoodIn wsX1_goodsSurelyLacked wsX1_isOfKind := goodIn_r _ [6, 7, 8, 9, 10, 11, 12, 13, 14, 15, 16, 17] (by decide +kernel) (by decide +kernel)
set_option maxRecDepth 20000 in
theorem gX1_goodsSurelyLacked_X1_isOfKind : GoodIn wsX1_goodsSurelyLacked (wsV RX1 43 RX1 yX1_isOfKind wsX1_isOfKind) := goodIn_app (goodIn_of _ (by decide +kernel)) ggX1_goodsSurelyLacked_X1_isOfKind
theorem dX1_goodsSurelyLacked_0 : decode cX1_goodsSurelyLacked 0 = .ok (.aload_n 0, 1) := by decide +kernel
theorem dX1_goodsSurelyLacked_1 : decode cX1_goodsSurelyLacked 1 = .ok (.iconst 1, 1) := by decide +kernel
theorem dX1_goodsSurelyLacked_2 : decode cX1_goodsSurelyLacked 2 = .ok (.invokevirtual 43, 3) := by decide +kernel
theorem dX1_goodsSurelyLacked_5 : decode cX1_goodsSurelyLacked 5 = .ok (.ifCond .eq 7, 3) := by decide +kernel
theorem dX1_goodsSurelyLacked_8 : decode cX1_goodsSurelyLacked 8 = .ok (.iconst 0, 1) := by decide +kernel
theorem dX1_goodsSurelyLacked_9 : decode cX1_goodsSurelyLacked 9 = .ok (.goto 13, 3) := by decide +kernel
theorem dX1_goodsSurelyLacked_12 : decode cX1_goodsSurelyLacked 12 = .ok (.sipush 4095, 3) := by decide +kernel
theorem dX1_goodsSurelyLacked_15 : decode cX1_goodsSurelyLacked 15 = .ok (.aload_n 0, 1) := by decide +kernel
theorem dX1_goodsSurelyLacked_16 : decode cX1_goodsSurelyLacked 16 = .ok (.getfield 21, 3) := by decide +kernel
theorem dX1_goodsSurelyLacked_19 : decode cX1_goodsSurelyLacked 19 = .ok (.iconst (-1), 1) := by decide +kernel
theorem dX1_goodsSurelyLacked_20 : decode cX1_goodsSurelyLacked 20 = .ok (.ixor, 1) := by decide +kernel
theorem dX1_goodsSurelyLacked_21 : decode cX1_goodsSurelyLacked 21 = .ok (.iand, 1) := by decide +kernel
theorem dX1_goodsSurelyLacked_22 : decode cX1_goodsSurelyLacked 22 = .ok (.ireturn, 1) := by decide +kernel
theorem dX1_isWithin_0 : decode cX1_isWithin 0 = .ok (.aload_n 0, 1) := by decide +kernel
theorem dX1_isWithin_1 : decode cX1_isWithin 1 = .ok (.getfield 15, 3) := by decide +kernel
theorem dX1_isWithin_4 : decode cX1_isWithin 4 = .ok (.aload_n 2, 1) := by decide +kernel
theorem dX1_isWithin_5 : decode cX1_isWithin 5 = .ok (.getfield 15, 3) := by decide +kernel
theorem dX1_isWithin_8 : decode cX1_isWithin 8 = .ok (.isub, 1) := by decide +kernel
theorem dX1_isWithin_9 : decode cX1_isWithin 9 = .ok (.invokestatic 47, 3) := by decide +kernel
theorem dX1_isWithin_12 : decode cX1_isWithin 12 = .ok (.iload_n 1, 1) := by decide +kernel
theorem dX1_isWithin_13 : decode cX1_isWithin 13 = .ok (.if_icmp .gt 23, 3) := by decide +kernel
theorem dX1_isWithin_16 : decode cX1_isWithin 16 = .ok (.aload_n 0, 1) := by decide +kernel
theorem dX1_isWithin_17 : decode cX1_isWithin 17 = .ok (.getfield 18, 3) := by decide +kernel
theorem dX1_isWithin_20 : decode cX1_isWithin 20 = .ok (.aload_n 2, 1) := by decide +kernel
theorem dX1_isWithin_21 : decode cX1_isWithin 21 = .ok (.getfield 18, 3) := by decide +kernel
theorem dX1_isWithin_24 : decode cX1_isWithin 24 = .ok (.isub, 1) := by decide +kernel
theorem dX1_isWithin_25 : decode cX1_isWithin 25 = .ok (.invokestatic 47, 3) := by decide +kernel
theorem dX1_isWithin_28 : decode cX1_isWithin 28 = .ok (.iload_n 1, 1) := by decide +kernel
theorem dX1_isWithin_29 : decode cX1_isWithin 29 = .ok (.if_icmp .gt 7, 3) := by decide +kernel
theorem dX1_isWithin_32 : decode cX1_isWithin 32 = .ok (.iconst 1, 1) := by decide +kernel
theorem dX1_isWithin_33 : decode cX1_isWithin 33 = .ok (.goto 4, 3) := by decide +kernel
theorem dX1_isWithin_36 : decode cX1_isWithin 36 = .ok (.iconst 0, 1) := by decide +kernel
theorem dX1_isWithin_37 : decode cX1_isWithin 37 = .ok (.ireturn, 1) := by decide +kernel
theorem dX1_setMark_0 : decode cX1_setMark 0 = .ok (.iconst 1, 1) := by decide +kernel
theorem dX1_setMark_1 : decode cX1_setMark 1 = .ok (.iload_n 1, 1) := by decide +kernel
theorem dX1_setMark_2 : decode cX1_setMark 2 = .ok (.ishl, 1) := by decide +kernel
theorem dX1_setMark_3 : decode cX1_setMark 3 = .ok (.istore_n 3, 1) := by decide +kernel
theorem dX1_setMark_4 : decode cX1_setMark 4 = .ok (.aload_n 0, 1) := by decide +kernel
theorem dX1_setMark_5 : decode cX1_setMark 5 = .ok (.getfield 33, 3) := by decide +kernel
theorem dX1_setMark_8 : decode cX1_setMark 8 = .ok (.iload_n 3, 1) := by decide +kernel
theorem dX1_setMark_9 : decode cX1_setMark 9 = .ok (.iand, 1) := by decide +kernel
theorem dX1_setMark_10 : decode cX1_setMark 10 = .ok (.ifCond .ne 7, 3) := by decide +kernel
theorem dX1_setMark_13 : decode cX1_setMark 13 = .ok (.iconst 1, 1) := by decide +kernel
theorem dX1_setMark_14 : decode cX1_setMark 14 = .ok (.goto 4, 3) := by decide +kernel
theorem dX1_setMark_17 : decode cX1_setMark 17 = .ok (.iconst 0, 1) := by decide +kernel
theorem dX1_setMark_18 : decode cX1_setMark 18 = .ok (.istore 4, 2) := by decide +kernel
theorem dX1_setMark_20 : decode cX1_setMark 20 = .ok (.aload_n 0, 1) := by decide +kernel
theorem dX1_setMark_21 : decode cX1_setMark 21 = .ok (.dup, 1) := by decide +kernel
theorem dX1_setMark_22 : decode cX1_setMark 22 = .ok (.getfield 33, 3) := by decide +kernel
theorem dX1_setMark_25 : decode cX1_setMark 25 = .ok (.iload_n 3, 1) := by decide +kernel
theorem dX1_setMark_26 : decode cX1_setMark 26 = .ok (.ior, 1) := by decide +kernel
theorem dX1_setMark_27 : decode cX1_setMark 27 = .ok (.putfield 33, 3) := by decide +kernel
theorem dX1_setMark_30 : decode cX1_setMark 30 = .ok (.aload_n 0, 1) := by decide +kernel
theorem dX1_setMark_31 : decode cX1_setMark 31 = .ok (.iload_n 2, 1) := by decide +kernel
theorem dX1_setMark_32 : decode cX1_setMark 32 = .ok (.ifCond .eq 12, 3) := by decide +kernel
theorem dX1_setMark_35 : decode cX1_setMark 35 = .ok (.aload_n 0, 1) := by decide +kernel
theorem dX1_setMark_36 : decode cX1_setMark 36 = .ok (.getfield 36, 3) := by decide +kernel
theorem dX1_setMark_39 : decode cX1_setMark 39 = .ok (.iload_n 3, 1) := by decide +kernel
theorem dX1_setMark_40 : decode cX1_setMark 40 = .ok (.ior, 1) := by decide +kernel
theorem dX1_setMark_41 : decode cX1_setMark 41 = .ok (.goto 11, 3) := by decide +kernel
theorem dX1_setMark_44 : decode cX1_setMark 44 = .ok (.aload_n 0, 1) := by decide +kernel
theorem dX1_setMark_45 : decode cX1_setMark 45 = .ok (.getfield 36, 3) := by decide +kernel
theorem dX1_setMark_48 : decode cX1_setMark 48 = .ok (.iload_n 3, 1) := by decide +kernel
theorem dX1_setMark_49 : decode cX1_setMark 49 = .ok (.iconst (-1), 1) := by decide +kernel
theorem dX1_setMark_50 : decode cX1_setMark 50 = .ok (.ixor, 1) := by decide +kernel
theorem dX1_setMark_51 : decode cX1_setMark 51 = .ok (.iand, 1) := by decide +kernel
theorem dX1_setMark_52 : decode cX1_setMark 52 = .ok (.putfield 36, 3) := by decide +kernel
theorem dX1_setMark_55 : decode cX1_setMark 55 = .ok (.iload 4, 2) := by decide +kernel
theorem dX1_setMark_57 : decode cX1_setMark 57 = .ok (.ireturn, 1) := by decide +kernel
set_option maxRecDepth 20000 in
theorem ggX2_init_X1_init : GoodIn wsX2_init wsX1_init := goodIn_r _ [14, 15, 2, 3] (by decide +kernel) (by decide +kernel)
set_option maxRecDepth 20000 in
theorem gX2_init_X1_init_n30 : GoodIn wsX2_init (wsX1_init) := ggX2_init_X1_init
theorem dX2_init_0 : decode cX2_init 0 = .ok (.aload_n 0, 1) := by decide +kernel
theorem dX2_init_1 : decode cX2_init 1 = .ok (.invokespecial 3, 3) := by decide +kernel
theorem dX2_init_4 : decode cX2_init 4 = .ok (.aload_n 0, 1) := by decide +kernel
theorem dX2_init_5 : decode cX2_init 5 = .ok (.bipush 10, 2) := by decide +kernel
theorem dX2_init_7 : decode cX2_init 7 = .ok (.anewarray 9, 3) := by decide +kernel
theorem dX2_init_10 : decode cX2_init 10 = .ok (.putfield 11, 3) := by decide +kernel
theorem dX2_init_13 : decode cX2_init 13 = .ok (.aload_n 0, 1) := by decide +kernel
theorem dX2_init_14 : decode cX2_init 14 = .ok (.bipush 6, 2) := by decide +kernel
theorem dX2_init_16 : decode cX2_init 16 = .ok (.newarray .int, 2) := by decide +kernel
theorem dX2_init_18 : decode cX2_init 18 = .ok (.putfield 17, 3) := by decide +kernel
theorem dX2_init_21 : decode cX2_init 21 = .ok (.aload_n 0, 1) := by decide +kernel
theorem dX2_init_22 : decode cX2_init 22 = .ok (.bipush 6, 2) := by decide +kernel
theorem dX2_init_24 : decode cX2_init 24 = .ok (.newarray .int, 2) := by decide +kernel
theorem dX2_init_26 : decode cX2_init 26 = .ok (.putfield 21, 3) := by decide +kernel
theorem dX2_init_29 : decode cX2_init 29 = .ok (.aload_n 0, 1) := by decide +kernel
theorem dX2_init_30 : decode cX2_init 30 = .ok (.bipush 12, 2) := by decide +kernel
theorem dX2_init_32 : decode cX2_init 32 = .ok (.newarray .int, 2) := by decide +kernel
theorem dX2_init_34 : decode cX2_init 34 = .ok (.putfield 24, 3) := by decide +kernel
theorem dX2_init_37 : decode cX2_init 37 = .ok (.aload_n 0, 1) := by decide +kernel
theorem dX2_init_38 : decode cX2_init 38 = .ok (.bipush 10, 2) := by decide +kernel
theorem dX2_init_40 : decode cX2_init 40 = .ok (.newarray .int, 2) := by decide +kernel
theorem dX2_init_42 : decode cX2_init 42 = .ok (.putfield 27, 3) := by decide +kernel
theorem dX2_init_45 : decode cX2_init 45 = .ok (.iconst 0, 1) := by decide +kernel
theorem dX2_init_46 : decode cX2_init 46 = .ok (.istore_n 1, 1) := by decide +kernel
theorem dX2_init_47 : decode cX2_init 47 = .ok (.iload_n 1, 1) := by decide +kernel
theorem dX2_init_48 : decode cX2_init 48 = .ok (.bipush 10, 2) := by decide +kernel
theorem dX2_init_50 : decode cX2_init 50 = .ok (.if_icmp .ge 22, 3) := by decide +kernel
theorem dX2_init_53 : decode cX2_init 53 = .ok (.aload_n 0, 1) := by decide +kernel
theorem dX2_init_54 : decode cX2_init 54 = .ok (.getfield 11, 3) := by decide +kernel
theorem dX2_init_57 : decode cX2_init 57 = .ok (.iload_n 1, 1) := by decide +kernel
theorem dX2_init_58 : decode cX2_init 58 = .ok (.new 9, 3) := by decide +kernel
theorem dX2_init_61 : decode cX2_init 61 = .ok (.dup, 1) := by decide +kernel
theorem dX2_init_62 : decode cX2_init 62 = .ok (.invokespecial 30, 3) := by decide +kernel
theorem dX2_init_65 : decode cX2_init 65 = .ok (.aastore, 1) := by decide +kernel
theorem dX2_init_66 : decode cX2_init 66 = .ok (.iinc 1 1, 3) := by decide +kernel
theorem dX2_init_69 : decode cX2_init 69 = .ok (.goto (-22), 3) := by decide +kernel
theorem dX2_init_72 : decode cX2_init 72 = .ok (.iconst 0, 1) := by decide +kernel
theorem dX2_init_73 : decode cX2_init 73 = .ok (.istore_n 1, 1) := by decide +kernel
theorem dX2_init_74 : decode cX2_init 74 = .ok (.iload_n 1, 1) := by decide +kernel
theorem dX2_init_75 : decode cX2_init 75 = .ok (.bipush 6, 2) := by decide +kernel
theorem dX2_init_77 : decode cX2_init 77 = .ok (.if_icmp .ge 25, 3) := by decide +kernel
theorem dX2_init_80 : decode cX2_init 80 = .ok (.aload_n 0, 1) := by decide +kernel
theorem dX2_init_81 : decode cX2_init 81 = .ok (.getfield 17, 3) := by decide +kernel
theorem dX2_init_84 : decode cX2_init 84 = .ok (.iload_n 1, 1) := by decide +kernel
theorem dX2_init_85 : decode cX2_init 85 = .ok (.bipush 10, 2) := by decide +kernel
theorem dX2_init_87 : decode cX2_init 87 = .ok (.iastore, 1) := by decide +kernel
theorem dX2_init_88 : decode cX2_init 88 = .ok (.aload_n 0, 1) := by decide +kernel
theorem dX2_init_89 : decode cX2_init 89 = .ok (.getfield 21, 3) := by decide +kernel
theorem dX2_init_92 : decode cX2_init 92 = .ok (.iload_n 1, 1) := by decide +kernel
theorem dX2_init_93 : decode cX2_init 93 = .ok (.bipush 10, 2) := by decide +kernel
theorem dX2_init_95 : decode cX2_init 95 = .ok (.iastore, 1) := by decide +kernel
theorem dX2_init_96 : decode cX2_init 96 = .ok (.iinc 1 1, 3) := by decide +kernel
theorem dX2_init_99 : decode cX2_init 99 = .ok (.goto (-25), 3) := by decide +kernel
theorem dX2_init_102 : decode cX2_init 102 = .ok (.return_, 1) := by decide +kernel
set_option maxRecDepth 20000 in
theorem ggX2_become_X1_become : GoodIn wsX2_become wsX1_become := goodIn_r _ [15, 16, 17, 18, 19, 20, 21, 22, 23, 24, 32, 33, 34, 35, 36, 37, 38, 39, 40] (by decide +kernel) (by decide +kernel)
set_option maxRecDepth 20000 in
theorem gX2_become_X1_become : GoodIn wsX2_become (wsV RX2 31 RX1 yX1_become wsX1_become) := goodIn_app (goodIn_of _ (by decide +kernel)) ggX2_become_X1_become
theorem dX2_become_0 : decode cX2_become 0 = .ok (.iconst 0, 1) := by decide +kernel
theorem dX2_become_1 : decode cX2_become 1 = .ok (.istore_n 2, 1) := by decide +kernel
theorem dX2_become_2 : decode cX2_become 2 = .ok (.iload_n 2, 1) := by decide +kernel
theorem dX2_become_3 : decode cX2_become 3 = .ok (.bipush 10, 2) := by decide +kernel
theorem dX2_become_5 : decode cX2_become 5 = .ok (.if_icmp .ge 24, 3) := by decide +kernel
theorem dX2_become_8 : decode cX2_become 8 = .ok (.aload_n 0, 1) := by decide +kernel
theorem dX2_become_9 : decode cX2_become 9 = .ok (.getfield 11, 3) := by decide +kernel
theorem dX2_become_12 : decode cX2_become 12 = .ok (.iload_n 2, 1) := by decide +kernel
theorem dX2_become_13 : decode cX2_become 13 = .ok (.aaload, 1) := by decide +kernel
theorem dX2_become_14 : decode cX2_become 14 = .ok (.aload_n 1, 1) := by decide +kernel
theorem dX2_become_15 : decode cX2_become 15 = .ok (.getfield 11, 3) := by decide +kernel
theorem dX2_become_18 : decode cX2_become 18 = .ok (.iload_n 2, 1) := by decide +kernel
theorem dX2_become_19 : decode cX2_become 19 = .ok (.aaload, 1) := by decide +kernel
theorem dX2_become_20 : decode cX2_become 20 = .ok (.invokevirtual 31, 3) := by decide +kernel
theorem dX2_become_23 : decode cX2_become 23 = .ok (.iinc 2 1, 3) := by decide +kernel
theorem dX2_become_26 : decode cX2_become 26 = .ok (.goto (-24), 3) := by decide +kernel
theorem dX2_become_29 : decode cX2_become 29 = .ok (.aload_n 1, 1) := by decide +kernel
theorem dX2_become_30 : decode cX2_become 30 = .ok (.getfield 17, 3) := by decide +kernel
theorem dX2_become_33 : decode cX2_become 33 = .ok (.iconst 0, 1) := by decide +kernel
theorem dX2_become_34 : decode cX2_become 34 = .ok (.aload_n 0, 1) := by decide +kernel
theorem dX2_become_35 : decode cX2_become 35 = .ok (.getfield 17, 3) := by decide +kernel
theorem dX2_become_38 : decode cX2_become 38 = .ok (.iconst 0, 1) := by decide +kernel
theorem dX2_become_39 : decode cX2_become 39 = .ok (.bipush 6, 2) := by decide +kernel
theorem dX2_become_41 : decode cX2_become 41 = .ok (.invokestatic 35, 3) := by decide +kernel
theorem dX2_become_44 : decode cX2_become 44 = .ok (.aload_n 1, 1) := by decide +kernel
theorem dX2_become_45 : decode cX2_become 45 = .ok (.getfield 21, 3) := by decide +kernel
theorem dX2_become_48 : decode cX2_become 48 = .ok (.iconst 0, 1) := by decide +kernel
theorem dX2_become_49 : decode cX2_become 49 = .ok (.aload_n 0, 1) := by decide +kernel
theorem dX2_become_50 : decode cX2_become 50 = .ok (.getfield 21, 3) := by decide +kernel
theorem dX2_become_53 : decode cX2_become 53 = .ok (.iconst 0, 1) := by decide +kernel
theorem dX2_become_54 : decode cX2_become 54 = .ok (.bipush 6, 2) := by decide +kernel
theorem dX2_become_56 : decode cX2_become 56 = .ok (.invokestatic 35, 3) := by decide +kernel
theorem dX2_become_59 : decode cX2_become 59 = .ok (.aload_n 1, 1) := by decide +kernel
theorem dX2_become_60 : decode cX2_become 60 = .ok (.getfield 24, 3) := by decide +kernel
theorem dX2_become_63 : decode cX2_become 63 = .ok (.iconst 0, 1) := by decide +kernel
theorem dX2_become_64 : decode cX2_become 64 = .ok (.aload_n 0, 1) := by decide +kernel
theorem dX2_become_65 : decode cX2_become 65 = .ok (.getfield 24, 3) := by decide +kernel
theorem dX2_become_68 : decode cX2_become 68 = .ok (.iconst 0, 1) := by decide +kernel
theorem dX2_become_69 : decode cX2_become 69 = .ok (.bipush 12, 2) := by decide +kernel
theorem dX2_become_71 : decode cX2_become 71 = .ok (.invokestatic 35, 3) := by decide +kernel
theorem dX2_become_74 : decode cX2_become 74 = .ok (.aload_n 0, 1) := by decide +kernel
theorem dX2_become_75 : decode cX2_become 75 = .ok (.aload_n 1, 1) := by decide +kernel
theorem dX2_become_76 : decode cX2_become 76 = .ok (.getfield 41, 3) := by decide +kernel
theorem dX2_become_79 : decode cX2_become 79 = .ok (.putfield 41, 3) := by decide +kernel
theorem dX2_become_82 : decode cX2_become 82 = .ok (.aload_n 0, 1) := by decide +kernel
theorem dX2_become_83 : decode cX2_become 83 = .ok (.aload_n 1, 1) := by decide +kernel
theorem dX2_become_84 : decode cX2_become 84 = .ok (.getfield 45, 3) := by decide +kernel
theorem dX2_become_87 : decode cX2_become 87 = .ok (.putfield 45, 3) := by decide +kernel
theorem dX2_become_90 : decode cX2_become 90 = .ok (.return_, 1) := by decide +kernel
theorem dX2_holds_0 : decode cX2_holds 0 = .ok (.iload_n 1, 1) := by decide +kernel
theorem dX2_holds_1 : decode cX2_holds 1 = .ok (.ifCond .lt 15, 3) := by decide +kernel
theorem dX2_holds_4 : decode cX2_holds 4 = .ok (.iload_n 1, 1) := by decide +kernel
theorem dX2_holds_5 : decode cX2_holds 5 = .ok (.aload_n 0, 1) := by decide +kernel
theorem dX2_holds_6 : decode cX2_holds 6 = .ok (.getfield 41, 3) := by decide +kernel
theorem dX2_holds_9 : decode cX2_holds 9 = .ok (.if_icmp .ge 7, 3) := by decide +kernel
theorem dX2_holds_12 : decode cX2_holds 12 = .ok (.iconst 1, 1) := by decide +kernel
theorem dX2_holds_13 : decode cX2_holds 13 = .ok (.goto 4, 3) := by decide +kernel
theorem dX2_holds_16 : decode cX2_holds 16 = .ok (.iconst 0, 1) := by decide +kernel
theorem dX2_holds_17 : decode cX2_holds 17 = .ok (.ireturn, 1) := by decide +kernel
set_option maxRecDepth 20000 in
theorem ggX2_open_X1_beginAs : GoodIn wsX2_open wsX1_beginAs := goodIn_r _ [7, 8, 9, 10, 11, 12, 13, 14, 15, 16, 24, 25, 26, 27, 28, 29, 30, 31, 32] (by decide +kernel) (by decide +kernel)
set_option maxRecDepth 20000 in
theorem gX2_open_X1_beginAs : GoodIn wsX2_open (wsV RX2 48 RX1 yX1_beginAs wsX1_beginAs) := goodIn_app (goodIn_of _ (by decide +kernel)) ggX2_open_X1_beginAs
theorem dX2_open_0 : decode cX2_open 0 = .ok (.aload_n 0, 1) := by decide +kernel
theorem dX2_open_1 : decode cX2_open 1 = .ok (.getfield 11, 3) := by decide +kernel
theorem dX2_open_4 : decode cX2_open 4 = .ok (.aload_n 0, 1) := by decide +kernel
theorem dX2_open_5 : decode cX2_open 5 = .ok (.getfield 41, 3) := by decide +kernel
theorem dX2_open_8 : decode cX2_open 8 = .ok (.aaload, 1) := by decide +kernel
theorem dX2_open_9 : decode cX2_open 9 = .ok (.iload_n 1, 1) := by decide +kernel
theorem dX2_open_10 : decode cX2_open 10 = .ok (.iload_n 2, 1) := by decide +kernel
theorem dX2_open_11 : decode cX2_open 11 = .ok (.iload_n 3, 1) := by decide +kernel
theorem dX2_open_12 : decode cX2_open 12 = .ok (.invokevirtual 48, 3) := by decide +kernel
theorem dX2_open_15 : decode cX2_open 15 = .ok (.aload_n 0, 1) := by decide +kernel
theorem dX2_open_16 : decode cX2_open 16 = .ok (.dup, 1) := by decide +kernel
theorem dX2_open_17 : decode cX2_open 17 = .ok (.getfield 41, 3) := by decide +kernel
theorem dX2_open_20 : decode cX2_open 20 = .ok (.iconst 1, 1) := by decide +kernel
theorem dX2_open_21 : decode cX2_open 21 = .ok (.iadd, 1) := by decide +kernel
theorem dX2_open_22 : decode cX2_open 22 = .ok (.putfield 41, 3) := by decide +kernel
theorem dX2_open_25 : decode cX2_open 25 = .ok (.aload_n 0, 1) := by decide +kernel
theorem dX2_open_26 : decode cX2_open 26 = .ok (.getfield 41, 3) := by decide +kernel
theorem dX2_open_29 : decode cX2_open 29 = .ok (.iconst 1, 1) := by decide +kernel
theorem dX2_open_30 : decode cX2_open 30 = .ok (.isub, 1) := by decide +kernel
theorem dX2_open_31 : decode cX2_open 31 = .ok (.ireturn, 1) := by decide +kernel
theorem dX2_closeLast_0 : decode cX2_closeLast 0 = .ok (.aload_n 0, 1) := by decide +kernel
theorem dX2_closeLast_1 : decode cX2_closeLast 1 = .ok (.dup, 1) := by decide +kernel
theorem dX2_closeLast_2 : decode cX2_closeLast 2 = .ok (.getfield 41, 3) := by decide +kernel
theorem dX2_closeLast_5 : decode cX2_closeLast 5 = .ok (.iconst 1, 1) := by decide +kernel
theorem dX2_closeLast_6 : decode cX2_closeLast 6 = .ok (.isub, 1) := by decide +kernel
theorem dX2_closeLast_7 : decode cX2_closeLast 7 = .ok (.putfield 41, 3) := by decide +kernel
theorem dX2_closeLast_10 : decode cX2_closeLast 10 = .ok (.iconst 0, 1) := by decide +kernel
theorem dX2_closeLast_11 : decode cX2_closeLast 11 = .ok (.istore_n 1, 1) := by decide +kernel
theorem dX2_closeLast_12 : decode cX2_closeLast 12 = .ok (.iload_n 1, 1) := by decide +kernel
theorem dX2_closeLast_13 : decode cX2_closeLast 13 = .ok (.aload_n 0, 1) := by decide +kernel
theorem dX2_closeLast_14 : decode cX2_closeLast 14 = .ok (.getfield 41, 3) := by decide +kernel
theorem dX2_closeLast_17 : decode cX2_closeLast 17 = .ok (.if_icmp .ge 31, 3) := by decide +kernel
theorem dX2_closeLast_20 : decode cX2_closeLast 20 = .ok (.aload_n 0, 1) := by decide +kernel
theorem dX2_closeLast_21 : decode cX2_closeLast 21 = .ok (.getfield 11, 3) := by decide +kernel
theorem dX2_closeLast_24 : decode cX2_closeLast 24 = .ok (.iload_n 1, 1) := by decide +kernel
theorem dX2_closeLast_25 : decode cX2_closeLast 25 = .ok (.aaload, 1) := by decide +kernel
theorem dX2_closeLast_26 : decode cX2_closeLast 26 = .ok (.dup, 1) := by decide +kernel
theorem dX2_closeLast_27 : decode cX2_closeLast 27 = .ok (.getfield 52, 3) := by decide +kernel
theorem dX2_closeLast_30 : decode cX2_closeLast 30 = .ok (.iconst 1, 1) := by decide +kernel
theorem dX2_closeLast_31 : decode cX2_closeLast 31 = .ok (.aload_n 0, 1) := by decide +kernel
theorem dX2_closeLast_32 : decode cX2_closeLast 32 = .ok (.getfield 41, 3) := by decide +kernel
theorem dX2_closeLast_35 : decode cX2_closeLast 35 = .ok (.ishl, 1) := by decide +kernel
theorem dX2_closeLast_36 : decode cX2_closeLast 36 = .ok (.iconst (-1), 1) := by decide +kernel
theorem dX2_closeLast_37 : decode cX2_closeLast 37 = .ok (.ixor, 1) := by decide +kernel
theorem dX2_closeLast_38 : decode cX2_closeLast 38 = .ok (.iand, 1) := by decide +kernel
theorem dX2_closeLast_39 : decode cX2_closeLast 39 = .ok (.putfield 52, 3) := by decide +kernel
theorem dX2_closeLast_42 : decode cX2_closeLast 42 = .ok (.iinc 1 1, 3) := by decide +kernel
theorem dX2_closeLast_45 : decode cX2_closeLast 45 = .ok (.goto (-33), 3) := by decide +kernel
theorem dX2_closeLast_48 : decode cX2_closeLast 48 = .ok (.return_, 1) := by decide +kernel
theorem dX2_setCut_0 : decode cX2_setCut 0 = .ok (.aload_n 0, 1) := by decide +kernel
theorem dX2_setCut_1 : decode cX2_setCut 1 = .ok (.getfield 11, 3) := by decide +kernel
theorem dX2_setCut_4 : decode cX2_setCut 4 = .ok (.iload_n 1, 1) := by decide +kernel
theorem dX2_setCut_5 : decode cX2_setCut 5 = .ok (.aaload, 1) := by decide +kernel
theorem dX2_setCut_6 : decode cX2_setCut 6 = .ok (.getfield 52, 3) := by decide +kernel
theorem dX2_setCut_9 : decode cX2_setCut 9 = .ok (.istore 4, 2) := by decide +kernel
theorem dX2_setCut_11 : decode cX2_setCut 11 = .ok (.iconst 1, 1) := by decide +kernel
theorem dX2_setCut_12 : decode cX2_setCut 12 = .ok (.iload_n 2, 1) := by decide +kernel
theorem dX2_setCut_13 : decode cX2_setCut 13 = .ok (.ishl, 1) := by decide +kernel
theorem dX2_setCut_14 : decode cX2_setCut 14 = .ok (.istore 5, 2) := by decide +kernel
theorem dX2_setCut_16 : decode cX2_setCut 16 = .ok (.aload_n 0, 1) := by decide +kernel
theorem dX2_setCut_17 : decode cX2_setCut 17 = .ok (.getfield 11, 3) := by decide +kernel
theorem dX2_setCut_20 : decode cX2_setCut 20 = .ok (.iload_n 1, 1) := by decide +kernel
theorem dX2_setCut_21 : decode cX2_setCut 21 = .ok (.aaload, 1) := by decide +kernel
theorem dX2_setCut_22 : decode cX2_setCut 22 = .ok (.iload_n 3, 1) := by decide +kernel
theorem dX2_setCut_23 : decode cX2_setCut 23 = .ok (.ifCond .eq 11, 3) := by decide +kernel
theorem dX2_setCut_26 : decode cX2_setCut 26 = .ok (.iload 4, 2) := by decide +kernel
theorem dX2_setCut_28 : decode cX2_setCut 28 = .ok (.iload 5, 2) := by decide +kernel
theorem dX2_setCut_30 : decode cX2_setCut 30 = .ok (.ior, 1) := by decide +kernel
theorem dX2_setCut_31 : decode cX2_setCut 31 = .ok (.goto 10, 3) := by decide +kernel
theorem dX2_setCut_34 : decode cX2_setCut 34 = .ok (.iload 4, 2) := by decide +kernel
theorem dX2_setCut_36 : decode cX2_setCut 36 = .ok (.iload 5, 2) := by decide +kernel
theorem dX2_setCut_38 : decode cX2_setCut 38 = .ok (.iconst (-1), 1) := by decide +kernel
theorem dX2_setCut_39 : decode cX2_setCut 39 = .ok (.ixor, 1) := by decide +kernel
theorem dX2_setCut_40 : decode cX2_setCut 40 = .ok (.iand, 1) := by decide +kernel
theorem dX2_setCut_41 : decode cX2_setCut 41 = .ok (.putfield 52, 3) := by decide +kernel
theorem dX2_setCut_44 : decode cX2_setCut 44 = .ok (.aload_n 0, 1) := by decide +kernel
theorem dX2_setCut_45 : decode cX2_setCut 45 = .ok (.getfield 11, 3) := by decide +kernel
theorem dX2_setCut_48 : decode cX2_setCut 48 = .ok (.iload_n 1, 1) := by decide +kernel
theorem dX2_setCut_49 : decode cX2_setCut 49 = .ok (.aaload, 1) := by decide +kernel
theorem dX2_setCut_50 : decode cX2_setCut 50 = .ok (.getfield 52, 3) := by decide +kernel
theorem dX2_setCut_53 : decode cX2_setCut 53 = .ok (.iload 4, 2) := by decide +kernel
theorem dX2_setCut_55 : decode cX2_setCut 55 = .ok (.if_icmp .eq 7, 3) := by decide +kernel
theorem dX2_setCut_58 : decode cX2_setCut 58 = .ok (.iconst 1, 1) := by decide +kernel
theorem dX2_setCut_59 : decode cX2_setCut 59 = .ok (.goto 4, 3) := by decide +kernel
theorem dX2_setCut_62 : decode cX2_setCut 62 = .ok (.iconst 0, 1) := by decide +kernel
theorem dX2_setCut_63 : decode cX2_setCut 63 = .ok (.ireturn, 1) := by decide +kernel
set_option maxRecDepth 20000 in
theorem ggX2_countCuts_J6_bitCount_0f7a4 : GoodIn wsX2_countCuts wsJ6_bitCount_0f7a4 := goodIn_r _ [7, 8, 9, 10] (by decide +kernel) (by decide +kernel)
set_option maxRecDepth 20000 in
theorem gX2_countCuts_J6_bitCount_0f7a4 : GoodIn wsX2_countCuts (va_wsS RX2 55 yJ6_bitCount_0f7a4 wsJ6_bitCount_0f7a4) := goodIn_app (goodIn_of _ (by decide +kernel)) ggX2_countCuts_J6_bitCount_0f7a4
theorem dX2_countCuts_0 : decode cX2_countCuts 0 = .ok (.iconst 0, 1) := by decide +kernel
theorem dX2_countCuts_1 : decode cX2_countCuts 1 = .ok (.istore_n 1, 1) := by decide +kernel
theorem dX2_countCuts_2 : decode cX2_countCuts 2 = .ok (.iconst 0, 1) := by decide +kernel
theorem dX2_countCuts_3 : decode cX2_countCuts 3 = .ok (.istore_n 2, 1) := by decide +kernel
theorem dX2_countCuts_4 : decode cX2_countCuts 4 = .ok (.iload_n 2, 1) := by decide +kernel
theorem dX2_countCuts_5 : decode cX2_countCuts 5 = .ok (.aload_n 0, 1) := by decide +kernel
theorem dX2_countCuts_6 : decode cX2_countCuts 6 = .ok (.getfield 41, 3) := by decide +kernel
theorem dX2_countCuts_9 : decode cX2_countCuts 9 = .ok (.if_icmp .ge 24, 3) := by decide +kernel
theorem dX2_countCuts_12 : decode cX2_countCuts 12 = .ok (.iload_n 1, 1) := by decide +kernel
theorem dX2_countCuts_13 : decode cX2_countCuts 13 = .ok (.aload_n 0, 1) := by decide +kernel
theorem dX2_countCuts_14 : decode cX2_countCuts 14 = .ok (.getfield 11, 3) := by decide +kernel
theorem dX2_countCuts_17 : decode cX2_countCuts 17 = .ok (.iload_n 2, 1) := by decide +kernel
theorem dX2_countCuts_18 : decode cX2_countCuts 18 = .ok (.aaload, 1) := by decide +kernel
theorem dX2_countCuts_19 : decode cX2_countCuts 19 = .ok (.getfield 52, 3) := by decide +kernel
theorem dX2_countCuts_22 : decode cX2_countCuts 22 = .ok (.invokestatic 55, 3) := by decide +kernel
theorem dX2_countCuts_25 : decode cX2_countCuts 25 = .ok (.iadd, 1) := by decide +kernel
theorem dX2_countCuts_26 : decode cX2_countCuts 26 = .ok (.istore_n 1, 1) := by decide +kernel
theorem dX2_countCuts_27 : decode cX2_countCuts 27 = .ok (.iinc 2 1, 3) := by decide +kernel
theorem dX2_countCuts_30 : decode cX2_countCuts 30 = .ok (.goto (-26), 3) := by decide +kernel
theorem dX2_countCuts_33 : decode cX2_countCuts 33 = .ok (.iload_n 1, 1) := by decide +kernel
theorem dX2_countCuts_34 : decode cX2_countCuts 34 = .ok (.ireturn, 1) := by decide +kernel
set_option maxRecDepth 20000 in
theorem ggX2_cuttersOf_X5_isIn : GoodIn wsX2_cuttersOf wsX5_isIn := goodIn_r _ [6] (by decide +kernel) (by decide +kernel)
set_option maxRecDepth 20000 in
theorem gX2_cuttersOf_X5_isIn_n61 : GoodIn wsX2_cuttersOf (wsX5_isIn) := ggX2_cuttersOf_X5_isIn
theorem dX2_cuttersOf_0 : decode cX2_cuttersOf 0 = .ok (.iconst 0, 1) := by decide +kernel
theorem dX2_cuttersOf_1 : decode cX2_cuttersOf 1 = .ok (.istore_n 2, 1) := by decide +kernel
theorem dX2_cuttersOf_2 : decode cX2_cuttersOf 2 = .ok (.iconst 0, 1) := by decide +kernel
theorem dX2_cuttersOf_3 : decode cX2_cuttersOf 3 = .ok (.istore_n 3, 1) := by decide +kernel
theorem dX2_cuttersOf_4 : decode cX2_cuttersOf 4 = .ok (.iload_n 3, 1) := by decide +kernel
theorem dX2_cuttersOf_5 : decode cX2_cuttersOf 5 = .ok (.aload_n 0, 1) := by decide +kernel
theorem dX2_cuttersOf_6 : decode cX2_cuttersOf 6 = .ok (.getfield 41, 3) := by decide +kernel
theorem dX2_cuttersOf_9 : decode cX2_cuttersOf 9 = .ok (.if_icmp .ge 31, 3) := by decide +kernel
theorem dX2_cuttersOf_12 : decode cX2_cuttersOf 12 = .ok (.aload_n 0, 1) := by decide +kernel
theorem dX2_cuttersOf_13 : decode cX2_cuttersOf 13 = .ok (.getfield 11, 3) := by decide +kernel
theorem dX2_cuttersOf_16 : decode cX2_cuttersOf 16 = .ok (.iload_n 3, 1) := by decide +kernel
theorem dX2_cuttersOf_17 : decode cX2_cuttersOf 17 = .ok (.aaload, 1) := by decide +kernel
theorem dX2_cuttersOf_18 : decode cX2_cuttersOf 18 = .ok (.getfield 52, 3) := by decide +kernel
theorem dX2_cuttersOf_21 : decode cX2_cuttersOf 21 = .ok (.iload_n 1, 1) := by decide +kernel
theorem dX2_cuttersOf_22 : decode cX2_cuttersOf 22 = .ok (.invokestatic 61, 3) := by decide +kernel
theorem dX2_cuttersOf_25 : decode cX2_cuttersOf 25 = .ok (.ifCond .eq 9, 3) := by decide +kernel
theorem dX2_cuttersOf_28 : decode cX2_cuttersOf 28 = .ok (.iload_n 2, 1) := by decide +kernel
theorem dX2_cuttersOf_29 : decode cX2_cuttersOf 29 = .ok (.iconst 1, 1) := by decide +kernel
theorem dX2_cuttersOf_30 : decode cX2_cuttersOf 30 = .ok (.iload_n 3, 1) := by decide +kernel
theorem dX2_cuttersOf_31 : decode cX2_cuttersOf 31 = .ok (.ishl, 1) := by decide +kernel
theorem dX2_cuttersOf_32 : decode cX2_cuttersOf 32 = .ok (.ior, 1) := by decide +kernel
theorem dX2_cuttersOf_33 : decode cX2_cuttersOf 33 = .ok (.istore_n 2, 1) := by decide +kernel
theorem dX2_cuttersOf_34 : decode cX2_cuttersOf 34 = .ok (.iinc 3 1, 3) := by decide +kernel
theorem dX2_cuttersOf_37 : decode cX2_cuttersOf 37 = .ok (.goto (-33), 3) := by decide +kernel
theorem dX2_cuttersOf_40 : decode cX2_cuttersOf 40 = .ok (.iload_n 2, 1) := by decide +kernel
theorem dX2_cuttersOf_41 : decode cX2_cuttersOf 41 = .ok (.ireturn, 1) := by decide +kernel
set_option maxRecDepth 20000 in
theorem ggX2_earlierThan_X2_reachedFrom : GoodIn wsX2_earlierThan wsX2_reachedFrom := goodIn_r _ [9, 1, 2, 10, 11, 12, 13, 14, 15, 16, 17, 18, 19] (by decide +kernel) (by decide +kernel)
set_option maxRecDepth 20000 in
theorem gX2_earlierThan_X2_reachedFrom : GoodIn wsX2_earlierThan (wsV RX2 65 RX2 yX2_reachedFrom wsX2_reachedFrom) := goodIn_app (goodIn_of _ (by decide +kernel)) ggX2_earlierThan_X2_reachedFrom
theorem dX2_earlierThan_0 : decode cX2_earlierThan 0 = .ok (.iconst 0, 1) := by decide +kernel
theorem dX2_earlierThan_1 : decode cX2_earlierThan 1 = .ok (.istore_n 2, 1) := by decide +kernel
theorem dX2_earlierThan_2 : decode cX2_earlierThan 2 = .ok (.iload_n 2, 1) := by decide +kernel
theorem dX2_earlierThan_3 : decode cX2_earlierThan 3 = .ok (.aload_n 0, 1) := by decide +kernel
theorem dX2_earlierThan_4 : decode cX2_earlierThan 4 = .ok (.getfield 41, 3) := by decide +kernel
theorem dX2_earlierThan_7 : decode cX2_earlierThan 7 = .ok (.if_icmp .ge 24, 3) := by decide +kernel
theorem dX2_earlierThan_10 : decode cX2_earlierThan 10 = .ok (.aload_n 0, 1) := by decide +kernel
theorem dX2_earlierThan_11 : decode cX2_earlierThan 11 = .ok (.getfield 27, 3) := by decide +kernel
theorem dX2_earlierThan_14 : decode cX2_earlierThan 14 = .ok (.iload_n 2, 1) := by decide +kernel
theorem dX2_earlierThan_15 : decode cX2_earlierThan 15 = .ok (.aload_n 0, 1) := by decide +kernel
theorem dX2_earlierThan_16 : decode cX2_earlierThan 16 = .ok (.getfield 11, 3) := by decide +kernel
theorem dX2_earlierThan_19 : decode cX2_earlierThan 19 = .ok (.iload_n 2, 1) := by decide +kernel
theorem dX2_earlierThan_20 : decode cX2_earlierThan 20 = .ok (.aaload, 1) := by decide +kernel
theorem dX2_earlierThan_21 : decode cX2_earlierThan 21 = .ok (.getfield 52, 3) := by decide +kernel
theorem dX2_earlierThan_24 : decode cX2_earlierThan 24 = .ok (.iastore, 1) := by decide +kernel
theorem dX2_earlierThan_25 : decode cX2_earlierThan 25 = .ok (.iinc 2 1, 3) := by decide +kernel
theorem dX2_earlierThan_28 : decode cX2_earlierThan 28 = .ok (.goto (-26), 3) := by decide +kernel
theorem dX2_earlierThan_31 : decode cX2_earlierThan 31 = .ok (.aload_n 0, 1) := by decide +kernel
theorem dX2_earlierThan_32 : decode cX2_earlierThan 32 = .ok (.aload_n 0, 1) := by decide +kernel
theorem dX2_earlierThan_33 : decode cX2_earlierThan 33 = .ok (.getfield 27, 3) := by decide +kernel
theorem dX2_earlierThan_36 : decode cX2_earlierThan 36 = .ok (.iload_n 1, 1) := by decide +kernel
theorem dX2_earlierThan_37 : decode cX2_earlierThan 37 = .ok (.iaload, 1) := by decide +kernel
theorem dX2_earlierThan_38 : decode cX2_earlierThan 38 = .ok (.invokevirtual 65, 3) := by decide +kernel
theorem dX2_earlierThan_41 : decode cX2_earlierThan 41 = .ok (.ireturn, 1) := by decide +kernel
set_option maxRecDepth 20000 in
theorem ggX2_laterThan_X2_cuttersOf : GoodIn wsX2_laterThan wsX2_cuttersOf := goodIn_r _ [7, 1, 8, 9, 10, 11, 12, 17, 18, 19, 20, 21, 22, 23, 24, 25, 26, 27, 28, 29, 30, 31, 32] (by decide +kernel) (by decide +kernel)
set_option maxRecDepth 20000 in
theorem gX2_laterThan_X2_cuttersOf : GoodIn wsX2_laterThan (wsV RX2 68 RX2 yX2_cuttersOf wsX2_cuttersOf) := goodIn_app (goodIn_of _ (by decide +kernel)) ggX2_laterThan_X2_cuttersOf
set_option maxRecDepth 20000 in
theorem ggX2_laterThan_X2_reachedFrom : GoodIn wsX2_laterThan wsX2_reachedFrom := goodIn_r _ [16, 1, 2, 10, 11, 12, 17, 18, 19, 20, 21, 22, 23] (by decide +kernel) (by decide +kernel)
set_option maxRecDepth 20000 in
theorem gX2_laterThan_X2_reachedFrom : GoodIn wsX2_laterThan (wsV RX2 65 RX2 yX2_reachedFrom wsX2_reachedFrom) := goodIn_app (goodIn_of _ (by decide +kernel)) ggX2_laterThan_X2_reachedFrom
theorem dX2_laterThan_0 : decode cX2_laterThan 0 = .ok (.iconst 0, 1) := by decide +kernel
theorem dX2_laterThan_1 : decode cX2_laterThan 1 = .ok (.istore_n 2, 1) := by decide +kernel
theorem dX2_laterThan_2 : decode cX2_laterThan 2 = .ok (.iload_n 2, 1) := by decide +kernel
theorem dX2_laterThan_3 : decode cX2_laterThan 3 = .ok (.aload_n 0, 1) := by decide +kernel
theorem dX2_laterThan_4 : decode cX2_laterThan 4 = .ok (.getfield 41, 3) := by decide +kernel
theorem dX2_laterThan_7 : decode cX2_laterThan 7 = .ok (.if_icmp .ge 20, 3) := by decide +kernel
theorem dX2_laterThan_10 : decode cX2_laterThan 10 = .ok (.aload_n 0, 1) := by decide +kernel
theorem dX2_laterThan_11 : decode cX2_laterThan 11 = .ok (.getfield 27, 3) := by decide +kernel
theorem dX2_laterThan_14 : decode cX2_laterThan 14 = .ok (.iload_n 2, 1) := by decide +kernel
theorem dX2_laterThan_15 : decode cX2_laterThan 15 = .ok (.aload_n 0, 1) := by decide +kernel
theorem dX2_laterThan_16 : decode cX2_laterThan 16 = .ok (.iload_n 2, 1) := by decide +kernel
theorem dX2_laterThan_17 : decode cX2_laterThan 17 = .ok (.invokevirtual 68, 3) := by decide +kernel
theorem dX2_laterThan_20 : decode cX2_laterThan 20 = .ok (.iastore, 1) := by decide +kernel
theorem dX2_laterThan_21 : decode cX2_laterThan 21 = .ok (.iinc 2 1, 3) := by decide +kernel
theorem dX2_laterThan_24 : decode cX2_laterThan 24 = .ok (.goto (-22), 3) := by decide +kernel
theorem dX2_laterThan_27 : decode cX2_laterThan 27 = .ok (.aload_n 0, 1) := by decide +kernel
theorem dX2_laterThan_28 : decode cX2_laterThan 28 = .ok (.aload_n 0, 1) := by decide +kernel
theorem dX2_laterThan_29 : decode cX2_laterThan 29 = .ok (.getfield 27, 3) := by decide +kernel
theorem dX2_laterThan_32 : decode cX2_laterThan 32 = .ok (.iload_n 1, 1) := by decide +kernel
theorem dX2_laterThan_33 : decode cX2_laterThan 33 = .ok (.iaload, 1) := by decide +kernel
theorem dX2_laterThan_34 : decode cX2_laterThan 34 = .ok (.invokevirtual 65, 3) := by decide +kernel
theorem dX2_laterThan_37 : decode cX2_laterThan 37 = .ok (.ireturn, 1) := by decide +kernel
set_option maxRecDepth 20000 in
theorem ggX2_reachedFrom_X5_isIn : GoodIn wsX2_reachedFrom wsX5_isIn := goodIn_r _ [5] (by decide +kernel) (by decide +kernel)
set_option maxRecDepth 20000 in
theorem gX2_reachedFrom_X5_isIn_n61 : GoodIn wsX2_reachedFrom (wsX5_isIn) := ggX2_reachedFrom_X5_isIn
theorem dX2_reachedFrom_0 : decode cX2_reachedFrom 0 = .ok (.iload_n 1, 1) := by decide +kernel
theorem dX2_reachedFrom_1 : decode cX2_reachedFrom 1 = .ok (.istore_n 2, 1) := by decide +kernel
theorem dX2_reachedFrom_2 : decode cX2_reachedFrom 2 = .ok (.iconst 0, 1) := by decide +kernel
theorem dX2_reachedFrom_3 : decode cX2_reachedFrom 3 = .ok (.istore_n 3, 1) := by decide +kernel
theorem dX2_reachedFrom_4 : decode cX2_reachedFrom 4 = .ok (.iload_n 3, 1) := by decide +kernel
theorem dX2_reachedFrom_5 : decode cX2_reachedFrom 5 = .ok (.aload_n 0, 1) := by decide +kernel
theorem dX2_reachedFrom_6 : decode cX2_reachedFrom 6 = .ok (.getfield 41, 3) := by decide +kernel
theorem dX2_reachedFrom_9 : decode cX2_reachedFrom 9 = .ok (.if_icmp .ge 58, 3) := by decide +kernel
theorem dX2_reachedFrom_12 : decode cX2_reachedFrom 12 = .ok (.iload_n 2, 1) := by decide +kernel
theorem dX2_reachedFrom_13 : decode cX2_reachedFrom 13 = .ok (.istore 4, 2) := by decide +kernel
theorem dX2_reachedFrom_15 : decode cX2_reachedFrom 15 = .ok (.iconst 0, 1) := by decide +kernel
theorem dX2_reachedFrom_16 : decode cX2_reachedFrom 16 = .ok (.istore 5, 2) := by decide +kernel
theorem dX2_reachedFrom_18 : decode cX2_reachedFrom 18 = .ok (.iload 5, 2) := by decide +kernel
theorem dX2_reachedFrom_20 : decode cX2_reachedFrom 20 = .ok (.aload_n 0, 1) := by decide +kernel
theorem dX2_reachedFrom_21 : decode cX2_reachedFrom 21 = .ok (.getfield 41, 3) := by decide +kernel
theorem dX2_reachedFrom_24 : decode cX2_reachedFrom 24 = .ok (.if_icmp .ge 28, 3) := by decide +kernel
theorem dX2_reachedFrom_27 : decode cX2_reachedFrom 27 = .ok (.iload_n 2, 1) := by decide +kernel
theorem dX2_reachedFrom_28 : decode cX2_reachedFrom 28 = .ok (.iload 5, 2) := by decide +kernel
theorem dX2_reachedFrom_30 : decode cX2_reachedFrom 30 = .ok (.invokestatic 61, 3) := by decide +kernel
theorem dX2_reachedFrom_33 : decode cX2_reachedFrom 33 = .ok (.ifCond .eq 13, 3) := by decide +kernel
theorem dX2_reachedFrom_36 : decode cX2_reachedFrom 36 = .ok (.iload_n 2, 1) := by decide +kernel
theorem dX2_reachedFrom_37 : decode cX2_reachedFrom 37 = .ok (.aload_n 0, 1) := by decide +kernel
theorem dX2_reachedFrom_38 : decode cX2_reachedFrom 38 = .ok (.getfield 27, 3) := by decide +kernel
theorem dX2_reachedFrom_41 : decode cX2_reachedFrom 41 = .ok (.iload 5, 2) := by decide +kernel
theorem dX2_reachedFrom_43 : decode cX2_reachedFrom 43 = .ok (.iaload, 1) := by decide +kernel
theorem dX2_reachedFrom_44 : decode cX2_reachedFrom 44 = .ok (.ior, 1) := by decide +kernel
theorem dX2_reachedFrom_45 : decode cX2_reachedFrom 45 = .ok (.istore_n 2, 1) := by decide +kernel
theorem dX2_reachedFrom_46 : decode cX2_reachedFrom 46 = .ok (.iinc 5 1, 3) := by decide +kernel
theorem dX2_reachedFrom_49 : decode cX2_reachedFrom 49 = .ok (.goto (-31), 3) := by decide +kernel
theorem dX2_reachedFrom_52 : decode cX2_reachedFrom 52 = .ok (.iload_n 2, 1) := by decide +kernel
theorem dX2_reachedFrom_53 : decode cX2_reachedFrom 53 = .ok (.iload 4, 2) := by decide +kernel
theorem dX2_reachedFrom_55 : decode cX2_reachedFrom 55 = .ok (.if_icmp .ne 6, 3) := by decide +kernel
theorem dX2_reachedFrom_58 : decode cX2_reachedFrom 58 = .ok (.goto 9, 3) := by decide +kernel
theorem dX2_reachedFrom_61 : decode cX2_reachedFrom 61 = .ok (.iinc 3 1, 3) := by decide +kernel
theorem dX2_reachedFrom_64 : decode cX2_reachedFrom 64 = .ok (.goto (-60), 3) := by decide +kernel
theorem dX2_reachedFrom_67 : decode cX2_reachedFrom 67 = .ok (.iload_n 2, 1) := by decide +kernel
theorem dX2_reachedFrom_68 : decode cX2_reachedFrom 68 = .ok (.ireturn, 1) := by decide +kernel
set_option maxRecDepth 20000 in
theorem ggX2_earliestOf_X2_earlierThan : GoodIn wsX2_earliestOf wsX2_earlierThan := goodIn_r _ [12, 1, 13, 2, 14, 15, 16, 17, 11, 18, 19, 20, 21, 22, 23, 24, 25, 26, 27, 28, 29, 30, 31, 32, 33, 34, 35, 36, 37] (by decide +kernel) (by decide +kernel)
set_option maxRecDepth 20000 in
theorem gX2_earliestOf_X2_earlierThan : GoodIn wsX2_earliestOf (wsV RX2 71 RX2 yX2_earlierThan wsX2_earlierThan) := goodIn_app (goodIn_of _ (by decide +kernel)) ggX2_earliestOf_X2_earlierThan
set_option maxRecDepth 20000 in
theorem ggX2_earliestOf_X5_isIn : GoodIn wsX2_earliestOf wsX5_isIn := goodIn_r _ [21] (by decide +kernel) (by decide +kernel)
set_option maxRecDepth 20000 in
theorem gX2_earliestOf_X5_isIn_n61 : GoodIn wsX2_earliestOf (wsX5_isIn) := ggX2_earliestOf_X5_isIn
theorem dX2_earliestOf_0 : decode cX2_earliestOf 0 = .ok (.aload_n 0, 1) := by decide +kernel
theorem dX2_earliestOf_1 : decode cX2_earliestOf 1 = .ok (.iload_n 1, 1) := by decide +kernel
theorem dX2_earliestOf_2 : decode cX2_earliestOf 2 = .ok (.invokevirtual 71, 3) := by decide +kernel
theorem dX2_earliestOf_5 : decode cX2_earliestOf 5 = .ok (.iconst 1, 1) := by decide +kernel
theorem dX2_earliestOf_6 : decode cX2_earliestOf 6 = .ok (.iload_n 1, 1) := by decide +kernel
theorem dX2_earliestOf_7 : decode cX2_earliestOf 7 = .ok (.ishl, 1) := by decide +kernel
theorem dX2_earliestOf_8 : decode cX2_earliestOf 8 = .ok (.ior, 1) := by decide +kernel
theorem dX2_earliestOf_9 : decode cX2_earliestOf 9 = .ok (.istore_n 2, 1) := by decide +kernel
theorem dX2_earliestOf_10 : decode cX2_earliestOf 10 = .ok (.sipush (-5000), 3) := by decide +kernel
theorem dX2_earliestOf_13 : decode cX2_earliestOf 13 = .ok (.istore_n 3, 1) := by decide +kernel
theorem dX2_earliestOf_14 : decode cX2_earliestOf 14 = .ok (.iconst 0, 1) := by decide +kernel
theorem dX2_earliestOf_15 : decode cX2_earliestOf 15 = .ok (.istore 4, 2) := by decide +kernel
theorem dX2_earliestOf_17 : decode cX2_earliestOf 17 = .ok (.iload 4, 2) := by decide +kernel
theorem dX2_earliestOf_19 : decode cX2_earliestOf 19 = .ok (.aload_n 0, 1) := by decide +kernel
theorem dX2_earliestOf_20 : decode cX2_earliestOf 20 = .ok (.getfield 41, 3) := by decide +kernel
theorem dX2_earliestOf_23 : decode cX2_earliestOf 23 = .ok (.if_icmp .ge 33, 3) := by decide +kernel
theorem dX2_earliestOf_26 : decode cX2_earliestOf 26 = .ok (.iload_n 2, 1) := by decide +kernel
theorem dX2_earliestOf_27 : decode cX2_earliestOf 27 = .ok (.iload 4, 2) := by decide +kernel
theorem dX2_earliestOf_29 : decode cX2_earliestOf 29 = .ok (.invokestatic 61, 3) := by decide +kernel
theorem dX2_earliestOf_32 : decode cX2_earliestOf 32 = .ok (.ifCond .eq 18, 3) := by decide +kernel
theorem dX2_earliestOf_35 : decode cX2_earliestOf 35 = .ok (.iload_n 3, 1) := by decide +kernel
theorem dX2_earliestOf_36 : decode cX2_earliestOf 36 = .ok (.aload_n 0, 1) := by decide +kernel
theorem dX2_earliestOf_37 : decode cX2_earliestOf 37 = .ok (.getfield 11, 3) := by decide +kernel
theorem dX2_earliestOf_40 : decode cX2_earliestOf 40 = .ok (.iload 4, 2) := by decide +kernel
theorem dX2_earliestOf_42 : decode cX2_earliestOf 42 = .ok (.aaload, 1) := by decide +kernel
theorem dX2_earliestOf_43 : decode cX2_earliestOf 43 = .ok (.getfield 74, 3) := by decide +kernel
theorem dX2_earliestOf_46 : decode cX2_earliestOf 46 = .ok (.invokestatic 77, 3) := by decide +kernel
theorem dX2_earliestOf_49 : decode cX2_earliestOf 49 = .ok (.istore_n 3, 1) := by decide +kernel
theorem dX2_earliestOf_50 : decode cX2_earliestOf 50 = .ok (.iinc 4 1, 3) := by decide +kernel
theorem dX2_earliestOf_53 : decode cX2_earliestOf 53 = .ok (.goto (-36), 3) := by decide +kernel
theorem dX2_earliestOf_56 : decode cX2_earliestOf 56 = .ok (.iload_n 3, 1) := by decide +kernel
theorem dX2_earliestOf_57 : decode cX2_earliestOf 57 = .ok (.ireturn, 1) := by decide +kernel
set_option maxRecDepth 20000 in
theorem ggX2_latestOf_X2_laterThan : GoodIn wsX2_latestOf wsX2_laterThan := goodIn_r _ [12, 1, 13, 14, 15, 16, 11, 17, 2, 18, 19, 20, 21, 22, 23, 24, 25, 26, 27, 28, 29, 30, 31, 32, 33, 34, 35, 36, 37, 38, 39, 40, 41] (by decide +kernel) (by decide +kernel)
set_option maxRecDepth 20000 in
theorem gX2_latestOf_X2_laterThan : GoodIn wsX2_latestOf (wsV RX2 83 RX2 yX2_laterThan wsX2_laterThan) := goodIn_app (goodIn_of _ (by decide +kernel)) ggX2_latestOf_X2_laterThan
set_option maxRecDepth 20000 in
theorem ggX2_latestOf_X5_isIn : GoodIn wsX2_latestOf wsX5_isIn := goodIn_r _ [21] (by decide +kernel) (by decide +kernel)
set_option maxRecDepth 20000 in
theorem gX2_latestOf_X5_isIn_n61 : GoodIn wsX2_latestOf (wsX5_isIn) := ggX2_latestOf_X5_isIn
theorem dX2_latestOf_0 : decode cX2_latestOf 0 = .ok (.aload_n 0, 1) := by decide +kernel
theorem dX2_latestOf_1 : decode cX2_latestOf 1 = .ok (.iload_n 1, 1) := by decide +kernel
theorem dX2_latestOf_2 : decode cX2_latestOf 2 = .ok (.invokevirtual 83, 3) := by decide +kernel
theorem dX2_latestOf_5 : decode cX2_latestOf 5 = .ok (.iconst 1, 1) := by decide +kernel
theorem dX2_latestOf_6 : decode cX2_latestOf 6 = .ok (.iload_n 1, 1) := by decide +kernel
theorem dX2_latestOf_7 : decode cX2_latestOf 7 = .ok (.ishl, 1) := by decide +kernel
theorem dX2_latestOf_8 : decode cX2_latestOf 8 = .ok (.ior, 1) := by decide +kernel
theorem dX2_latestOf_9 : decode cX2_latestOf 9 = .ok (.istore_n 2, 1) := by decide +kernel
theorem dX2_latestOf_10 : decode cX2_latestOf 10 = .ok (.sipush 5000, 3) := by decide +kernel
theorem dX2_latestOf_13 : decode cX2_latestOf 13 = .ok (.istore_n 3, 1) := by decide +kernel
theorem dX2_latestOf_14 : decode cX2_latestOf 14 = .ok (.iconst 0, 1) := by decide +kernel
theorem dX2_latestOf_15 : decode cX2_latestOf 15 = .ok (.istore 4, 2) := by decide +kernel
theorem dX2_latestOf_17 : decode cX2_latestOf 17 = .ok (.iload 4, 2) := by decide +kernel
theorem dX2_latestOf_19 : decode cX2_latestOf 19 = .ok (.aload_n 0, 1) := by decide +kernel
theorem dX2_latestOf_20 : decode cX2_latestOf 20 = .ok (.getfield 41, 3) := by decide +kernel
theorem dX2_latestOf_23 : decode cX2_latestOf 23 = .ok (.if_icmp .ge 33, 3) := by decide +kernel
theorem dX2_latestOf_26 : decode cX2_latestOf 26 = .ok (.iload_n 2, 1) := by decide +kernel
theorem dX2_latestOf_27 : decode cX2_latestOf 27 = .ok (.iload 4, 2) := by decide +kernel
theorem dX2_latestOf_29 : decode cX2_latestOf 29 = .ok (.invokestatic 61, 3) := by decide +kernel
theorem dX2_latestOf_32 : decode cX2_latestOf 32 = .ok (.ifCond .eq 18, 3) := by decide +kernel
theorem dX2_latestOf_35 : decode cX2_latestOf 35 = .ok (.iload_n 3, 1) := by decide +kernel
theorem dX2_latestOf_36 : decode cX2_latestOf 36 = .ok (.aload_n 0, 1) := by decide +kernel
theorem dX2_latestOf_37 : decode cX2_latestOf 37 = .ok (.getfield 11, 3) := by decide +kernel
theorem dX2_latestOf_40 : decode cX2_latestOf 40 = .ok (.iload 4, 2) := by decide +kernel
theorem dX2_latestOf_42 : decode cX2_latestOf 42 = .ok (.aaload, 1) := by decide +kernel
theorem dX2_latestOf_43 : decode cX2_latestOf 43 = .ok (.getfield 86, 3) := by decide +kernel
theorem dX2_latestOf_46 : decode cX2_latestOf 46 = .ok (.invokestatic 89, 3) := by decide +kernel
theorem dX2_latestOf_49 : decode cX2_latestOf 49 = .ok (.istore_n 3, 1) := by decide +kernel
theorem dX2_latestOf_50 : decode cX2_latestOf 50 = .ok (.iinc 4 1, 3) := by decide +kernel
theorem dX2_latestOf_53 : decode cX2_latestOf 53 = .ok (.goto (-36), 3) := by decide +kernel
theorem dX2_latestOf_56 : decode cX2_latestOf 56 = .ok (.iload_n 3, 1) := by decide +kernel
theorem dX2_latestOf_57 : decode cX2_latestOf 57 = .ok (.ireturn, 1) := by decide +kernel
set_option maxRecDepth 20000 in
theorem ggX2_leastEarliest_X5_isIn : GoodIn wsX2_leastEarliest wsX5_isIn := goodIn_r _ [8] (by decide +kernel) (by decide +kernel)
set_option maxRecDepth 20000 in
theorem gX2_leastEarliest_X5_isIn_n61 : GoodIn wsX2_leastEarliest (wsX5_isIn) := ggX2_leastEarliest_X5_isIn
set_option maxRecDepth 20000 in
theorem ggX2_leastEarliest_X2_earliestOf : GoodIn wsX2_leastEarliest wsX2_earliestOf := goodIn_r _ [13, 1, 14, 15, 16, 17, 4, 18, 19, 20, 21, 12, 22, 23, 24, 25, 26, 27, 28, 6, 7, 8, 29, 30, 31, 32, 33, 34, 35, 36, 37, 38, 39, 40, 41, 42, 43, 44] (by decide +kernel) (by decide +kernel)
set_option maxRecDepth 20000 in
theorem gX2_leastEarliest_X2_earliestOf : GoodIn wsX2_leastEarliest (wsV RX2 92 RX2 yX2_earliestOf wsX2_earliestOf) := goodIn_app (goodIn_of _ (by decide +kernel)) ggX2_leastEarliest_X2_earliestOf
theorem dX2_leastEarliest_0 : decode cX2_leastEarliest 0 = .ok (.sipush 5000, 3) := by decide +kernel
theorem dX2_leastEarliest_3 : decode cX2_leastEarliest 3 = .ok (.istore_n 2, 1) := by decide +kernel
theorem dX2_leastEarliest_4 : decode cX2_leastEarliest 4 = .ok (.iconst 0, 1) := by decide +kernel
theorem dX2_leastEarliest_5 : decode cX2_leastEarliest 5 = .ok (.istore_n 3, 1) := by decide +kernel
theorem dX2_leastEarliest_6 : decode cX2_leastEarliest 6 = .ok (.iload_n 3, 1) := by decide +kernel
theorem dX2_leastEarliest_7 : decode cX2_leastEarliest 7 = .ok (.aload_n 0, 1) := by decide +kernel
theorem dX2_leastEarliest_8 : decode cX2_leastEarliest 8 = .ok (.getfield 41, 3) := by decide +kernel
theorem dX2_leastEarliest_11 : decode cX2_leastEarliest 11 = .ok (.if_icmp .ge 27, 3) := by decide +kernel
theorem dX2_leastEarliest_14 : decode cX2_leastEarliest 14 = .ok (.iload_n 1, 1) := by decide +kernel
theorem dX2_leastEarliest_15 : decode cX2_leastEarliest 15 = .ok (.iload_n 3, 1) := by decide +kernel
theorem dX2_leastEarliest_16 : decode cX2_leastEarliest 16 = .ok (.invokestatic 61, 3) := by decide +kernel
theorem dX2_leastEarliest_19 : decode cX2_leastEarliest 19 = .ok (.ifCond .eq 13, 3) := by decide +kernel
theorem dX2_leastEarliest_22 : decode cX2_leastEarliest 22 = .ok (.iload_n 2, 1) := by decide +kernel
theorem dX2_leastEarliest_23 : decode cX2_leastEarliest 23 = .ok (.aload_n 0, 1) := by decide +kernel
theorem dX2_leastEarliest_24 : decode cX2_leastEarliest 24 = .ok (.iload_n 3, 1) := by decide +kernel
theorem dX2_leastEarliest_25 : decode cX2_leastEarliest 25 = .ok (.invokevirtual 92, 3) := by decide +kernel
theorem dX2_leastEarliest_28 : decode cX2_leastEarliest 28 = .ok (.invokestatic 89, 3) := by decide +kernel
theorem dX2_leastEarliest_31 : decode cX2_leastEarliest 31 = .ok (.istore_n 2, 1) := by decide +kernel
theorem dX2_leastEarliest_32 : decode cX2_leastEarliest 32 = .ok (.iinc 3 1, 3) := by decide +kernel
theorem dX2_leastEarliest_35 : decode cX2_leastEarliest 35 = .ok (.goto (-29), 3) := by decide +kernel
theorem dX2_leastEarliest_38 : decode cX2_leastEarliest 38 = .ok (.iload_n 2, 1) := by decide +kernel
theorem dX2_leastEarliest_39 : decode cX2_leastEarliest 39 = .ok (.ireturn, 1) := by decide +kernel
set_option maxRecDepth 20000 in
theorem ggX2_greatestLatest_X5_isIn : GoodIn wsX2_greatestLatest wsX5_isIn := goodIn_r _ [8] (by decide +kernel) (by decide +kernel)
set_option maxRecDepth 20000 in
theorem gX2_greatestLatest_X5_isIn_n61 : GoodIn wsX2_greatestLatest (wsX5_isIn) := ggX2_greatestLatest_X5_isIn
set_option maxRecDepth 20000 in
theorem ggX2_greatestLatest_X2_latestOf : GoodIn wsX2_greatestLatest wsX2_latestOf := goodIn_r _ [13, 1, 14, 15, 16, 17, 4, 18, 19, 20, 21, 12, 22, 23, 24, 25, 26, 27, 28, 6, 7, 8, 29, 30, 31, 32, 33, 34, 35, 36, 37, 38, 39, 40, 41, 42, 43, 44, 45, 46, 47, 48] (by decide +kernel) (by decide +kernel)
set_option maxRecDepth 20000 in
theorem gX2_greatestLatest_X2_latestOf : GoodIn wsX2_greatestLatest (wsV RX2 95 RX2 yX2_latestOf wsX2_latestOf) := goodIn_app (goodIn_of _ (by decide +kernel)) ggX2_greatestLatest_X2_latestOf
theorem dX2_greatestLatest_0 : decode cX2_greatestLatest 0 = .ok (.sipush (-5000), 3) := by decide +kernel
theorem dX2_greatestLatest_3 : decode cX2_greatestLatest 3 = .ok (.istore_n 2, 1) := by decide +kernel
theorem dX2_greatestLatest_4 : decode cX2_greatestLatest 4 = .ok (.iconst 0, 1) := by decide +kernel
theorem dX2_greatestLatest_5 : decode cX2_greatestLatest 5 = .ok (.istore_n 3, 1) := by decide +kernel
theorem dX2_greatestLatest_6 : decode cX2_greatestLatest 6 = .ok (.iload_n 3, 1) := by decide +kernel
theorem dX2_greatestLatest_7 : decode cX2_greatestLatest 7 = .ok (.aload_n 0, 1) := by decide +kernel
theorem dX2_greatestLatest_8 : decode cX2_greatestLatest 8 = .ok (.getfield 41, 3) := by decide +kernel
theorem dX2_greatestLatest_11 : decode cX2_greatestLatest 11 = .ok (.if_icmp .ge 27, 3) := by decide +kernel
theorem dX2_greatestLatest_14 : decode cX2_greatestLatest 14 = .ok (.iload_n 1, 1) := by decide +kernel
theorem dX2_greatestLatest_15 : decode cX2_greatestLatest 15 = .ok (.iload_n 3, 1) := by decide +kernel
theorem dX2_greatestLatest_16 : decode cX2_greatestLatest 16 = .ok (.invokestatic 61, 3) := by decide +kernel
theorem dX2_greatestLatest_19 : decode cX2_greatestLatest 19 = .ok (.ifCond .eq 13, 3) := by decide +kernel
theorem dX2_greatestLatest_22 : decode cX2_greatestLatest 22 = .ok (.iload_n 2, 1) := by decide +kernel
theorem dX2_greatestLatest_23 : decode cX2_greatestLatest 23 = .ok (.aload_n 0, 1) := by decide +kernel
theorem dX2_greatestLatest_24 : decode cX2_greatestLatest 24 = .ok (.iload_n 3, 1) := by decide +kernel
theorem dX2_greatestLatest_25 : decode cX2_greatestLatest 25 = .ok (.invokevirtual 95, 3) := by decide +kernel
theorem dX2_greatestLatest_28 : decode cX2_greatestLatest 28 = .ok (.invokestatic 77, 3) := by decide +kernel
theorem dX2_greatestLatest_31 : decode cX2_greatestLatest 31 = .ok (.istore_n 2, 1) := by decide +kernel
theorem dX2_greatestLatest_32 : decode cX2_greatestLatest 32 = .ok (.iinc 3 1, 3) := by decide +kernel
theorem dX2_greatestLatest_35 : decode cX2_greatestLatest 35 = .ok (.goto (-29), 3) := by decide +kernel
theorem dX2_greatestLatest_38 : decode cX2_greatestLatest 38 = .ok (.iload_n 2, 1) := by decide +kernel
theorem dX2_greatestLatest_39 : decode cX2_greatestLatest 39 = .ok (.ireturn, 1) := by decide +kernel
set_option maxRecDepth 20000 in
theorem ggX2_havers_X5_isIn : GoodIn wsX2_havers wsX5_isIn := goodIn_r _ [6] (by decide +kernel) (by decide +kernel)
set_option maxRecDepth 20000 in
theorem gX2_havers_X5_isIn_n61 : GoodIn wsX2_havers (wsX5_isIn) := ggX2_havers_X5_isIn
theorem dX2_havers_0 : decode cX2_havers 0 = .ok (.iconst 0, 1) := by decide +kernel
theorem dX2_havers_1 : decode cX2_havers 1 = .ok (.istore_n 2, 1) := by decide +kernel
theorem dX2_havers_2 : decode cX2_havers 2 = .ok (.iconst 0, 1) := by decide +kernel
theorem dX2_havers_3 : decode cX2_havers 3 = .ok (.istore_n 3, 1) := by decide +kernel
theorem dX2_havers_4 : decode cX2_havers 4 = .ok (.iload_n 3, 1) := by decide +kernel
theorem dX2_havers_5 : decode cX2_havers 5 = .ok (.aload_n 0, 1) := by decide +kernel
theorem dX2_havers_6 : decode cX2_havers 6 = .ok (.getfield 41, 3) := by decide +kernel
theorem dX2_havers_9 : decode cX2_havers 9 = .ok (.if_icmp .ge 31, 3) := by decide +kernel
theorem dX2_havers_12 : decode cX2_havers 12 = .ok (.aload_n 0, 1) := by decide +kernel
theorem dX2_havers_13 : decode cX2_havers 13 = .ok (.getfield 11, 3) := by decide +kernel
theorem dX2_havers_16 : decode cX2_havers 16 = .ok (.iload_n 3, 1) := by decide +kernel
theorem dX2_havers_17 : decode cX2_havers 17 = .ok (.aaload, 1) := by decide +kernel
theorem dX2_havers_18 : decode cX2_havers 18 = .ok (.getfield 98, 3) := by decide +kernel
theorem dX2_havers_21 : decode cX2_havers 21 = .ok (.iload_n 1, 1) := by decide +kernel
theorem dX2_havers_22 : decode cX2_havers 22 = .ok (.invokestatic 61, 3) := by decide +kernel
theorem dX2_havers_25 : decode cX2_havers 25 = .ok (.ifCond .eq 9, 3) := by decide +kernel
theorem dX2_havers_28 : decode cX2_havers 28 = .ok (.iload_n 2, 1) := by decide +kernel
theorem dX2_havers_29 : decode cX2_havers 29 = .ok (.iconst 1, 1) := by decide +kernel
theorem dX2_havers_30 : decode cX2_havers 30 = .ok (.iload_n 3, 1) := by decide +kernel
theorem dX2_havers_31 : decode cX2_havers 31 = .ok (.ishl, 1) := by decide +kernel
theorem dX2_havers_32 : decode cX2_havers 32 = .ok (.ior, 1) := by decide +kernel
theorem dX2_havers_33 : decode cX2_havers 33 = .ok (.istore_n 2, 1) := by decide +kernel
theorem dX2_havers_34 : decode cX2_havers 34 = .ok (.iinc 3 1, 3) := by decide +kernel
theorem dX2_havers_37 : decode cX2_havers 37 = .ok (.goto (-33), 3) := by decide +kernel
theorem dX2_havers_40 : decode cX2_havers 40 = .ok (.iload_n 2, 1) := by decide +kernel
theorem dX2_havers_41 : decode cX2_havers 41 = .ok (.ireturn, 1) := by decide +kernel
set_option maxRecDepth 20000 in
theorem ggX2_fitsBehind_X2_holds : GoodIn wsX2_fitsBehind wsX2_holds := goodIn_r _ [8, 9, 13, 14, 15, 16, 17, 18, 19] (by decide +kernel) (by decide +kernel)
set_option maxRecDepth 20000 in
theorem gX2_fitsBehind_X2_holds : GoodIn wsX2_fitsBehind (wsV RX2 101 RX2 yX2_holds wsX2_holds) := goodIn_app (goodIn_of _ (by decide +kernel)) ggX2_fitsBehind_X2_holds
set_option maxRecDepth 20000 in
theorem ggX2_fitsBehind_X5_isIn : GoodIn wsX2_fitsBehind wsX5_isIn := goodIn_r _ [12] (by decide +kernel) (by decide +kernel)
set_option maxRecDepth 20000 in
theorem gX2_fitsBehind_X5_isIn_n61 : GoodIn wsX2_fitsBehind (wsX5_isIn) := ggX2_fitsBehind_X5_isIn
theorem dX2_fitsBehind_0 : decode cX2_fitsBehind 0 = .ok (.iload_n 2, 1) := by decide +kernel
theorem dX2_fitsBehind_1 : decode cX2_fitsBehind 1 = .ok (.iload_n 3, 1) := by decide +kernel
theorem dX2_fitsBehind_2 : decode cX2_fitsBehind 2 = .ok (.if_icmp .ge 16, 3) := by decide +kernel
theorem dX2_fitsBehind_5 : decode cX2_fitsBehind 5 = .ok (.aload_n 0, 1) := by decide +kernel
theorem dX2_fitsBehind_6 : decode cX2_fitsBehind 6 = .ok (.aload_n 0, 1) := by decide +kernel
theorem dX2_fitsBehind_7 : decode cX2_fitsBehind 7 = .ok (.getfield 24, 3) := by decide +kernel
theorem dX2_fitsBehind_10 : decode cX2_fitsBehind 10 = .ok (.iload_n 2, 1) := by decide +kernel
theorem dX2_fitsBehind_11 : decode cX2_fitsBehind 11 = .ok (.iaload, 1) := by decide +kernel
theorem dX2_fitsBehind_12 : decode cX2_fitsBehind 12 = .ok (.invokevirtual 101, 3) := by decide +kernel
theorem dX2_fitsBehind_15 : decode cX2_fitsBehind 15 = .ok (.ifCond .ne 5, 3) := by decide +kernel
theorem dX2_fitsBehind_18 : decode cX2_fitsBehind 18 = .ok (.iconst 0, 1) := by decide +kernel
theorem dX2_fitsBehind_19 : decode cX2_fitsBehind 19 = .ok (.ireturn, 1) := by decide +kernel
theorem dX2_fitsBehind_20 : decode cX2_fitsBehind 20 = .ok (.aload_n 0, 1) := by decide +kernel
theorem dX2_fitsBehind_21 : decode cX2_fitsBehind 21 = .ok (.getfield 24, 3) := by decide +kernel
theorem dX2_fitsBehind_24 : decode cX2_fitsBehind 24 = .ok (.iload_n 2, 1) := by decide +kernel
theorem dX2_fitsBehind_25 : decode cX2_fitsBehind 25 = .ok (.iaload, 1) := by decide +kernel
theorem dX2_fitsBehind_26 : decode cX2_fitsBehind 26 = .ok (.istore 4, 2) := by decide +kernel
theorem dX2_fitsBehind_28 : decode cX2_fitsBehind 28 = .ok (.iload_n 1, 1) := by decide +kernel
theorem dX2_fitsBehind_29 : decode cX2_fitsBehind 29 = .ok (.iload 4, 2) := by decide +kernel
theorem dX2_fitsBehind_31 : decode cX2_fitsBehind 31 = .ok (.invokestatic 61, 3) := by decide +kernel
theorem dX2_fitsBehind_34 : decode cX2_fitsBehind 34 = .ok (.ifCond .ne 24, 3) := by decide +kernel
theorem dX2_fitsBehind_37 : decode cX2_fitsBehind 37 = .ok (.aload_n 0, 1) := by decide +kernel
theorem dX2_fitsBehind_38 : decode cX2_fitsBehind 38 = .ok (.getfield 11, 3) := by decide +kernel
theorem dX2_fitsBehind_41 : decode cX2_fitsBehind 41 = .ok (.iload 4, 2) := by decide +kernel
theorem dX2_fitsBehind_43 : decode cX2_fitsBehind 43 = .ok (.aaload, 1) := by decide +kernel
theorem dX2_fitsBehind_44 : decode cX2_fitsBehind 44 = .ok (.getfield 52, 3) := by decide +kernel
theorem dX2_fitsBehind_47 : decode cX2_fitsBehind 47 = .ok (.iload_n 1, 1) := by decide +kernel
theorem dX2_fitsBehind_48 : decode cX2_fitsBehind 48 = .ok (.iconst (-1), 1) := by decide +kernel
theorem dX2_fitsBehind_49 : decode cX2_fitsBehind 49 = .ok (.ixor, 1) := by decide +kernel
theorem dX2_fitsBehind_50 : decode cX2_fitsBehind 50 = .ok (.iand, 1) := by decide +kernel
theorem dX2_fitsBehind_51 : decode cX2_fitsBehind 51 = .ok (.ifCond .ne 7, 3) := by decide +kernel
theorem dX2_fitsBehind_54 : decode cX2_fitsBehind 54 = .ok (.iconst 1, 1) := by decide +kernel
theorem dX2_fitsBehind_55 : decode cX2_fitsBehind 55 = .ok (.goto 4, 3) := by decide +kernel
theorem dX2_fitsBehind_58 : decode cX2_fitsBehind 58 = .ok (.iconst 0, 1) := by decide +kernel
theorem dX2_fitsBehind_59 : decode cX2_fitsBehind 59 = .ok (.ireturn, 1) := by decide +kernel
set_option maxRecDepth 20000 in
theorem ggX2_costOfWaiting_X1_goodsSurelyLacked : GoodIn wsX2_costOfWaiting wsX1_goodsSurelyLacked := goodIn_r _ [9, 10, 11, 12, 13, 8, 14, 15, 16, 31, 32, 33, 34, 35, 36, 37, 38, 39] (by decide +kernel) (by decide +kernel)
set_option maxRecDepth 20000 in
theorem gX2_costOfWaiting_X1_goodsSurelyLacked : GoodIn wsX2_costOfWaiting (wsV RX2 105 RX1 yX1_goodsSurelyLacked wsX1_goodsSurelyLacked) := goodIn_app (goodIn_of _ (by decide +kernel)) ggX2_costOfWaiting_X1_goodsSurelyLacked
set_option maxRecDepth 20000 in
theorem ggX2_costOfWaiting_J6_bitCount_0f7a4 : GoodIn wsX2_costOfWaiting wsJ6_bitCount_0f7a4 := goodIn_r _ [20, 21, 22, 23] (by decide +kernel) (by decide +kernel)
set_option maxRecDepth 20000 in
theorem gX2_costOfWaiting_J6_bitCount_0f7a4 : GoodIn wsX2_costOfWaiting (va_wsS RX2 55 yJ6_bitCount_0f7a4 wsJ6_bitCount_0f7a4) := goodIn_app (goodIn_of _ (by decide +kernel)) ggX2_costOfWaiting_J6_bitCount_0f7a4
theorem dX2_costOfWaiting_0 : decode cX2_costOfWaiting 0 = .ok (.iconst 0, 1) := by decide +kernel
theorem dX2_costOfWaiting_1 : decode cX2_costOfWaiting 1 = .ok (.istore_n 1, 1) := by decide +kernel
theorem dX2_costOfWaiting_2 : decode cX2_costOfWaiting 2 = .ok (.iconst 0, 1) := by decide +kernel
theorem dX2_costOfWaiting_3 : decode cX2_costOfWaiting 3 = .ok (.istore_n 2, 1) := by decide +kernel
theorem dX2_costOfWaiting_4 : decode cX2_costOfWaiting 4 = .ok (.iconst 0, 1) := by decide +kernel
theorem dX2_costOfWaiting_5 : decode cX2_costOfWaiting 5 = .ok (.istore_n 3, 1) := by decide +kernel
theorem dX2_costOfWaiting_6 : decode cX2_costOfWaiting 6 = .ok (.iload_n 3, 1) := by decide +kernel
theorem dX2_costOfWaiting_7 : decode cX2_costOfWaiting 7 = .ok (.aload_n 0, 1) := by decide +kernel
theorem dX2_costOfWaiting_8 : decode cX2_costOfWaiting 8 = .ok (.getfield 41, 3) := by decide +kernel
theorem dX2_costOfWaiting_11 : decode cX2_costOfWaiting 11 = .ok (.if_icmp .ge 89, 3) := by decide +kernel
theorem dX2_costOfWaiting_14 : decode cX2_costOfWaiting 14 = .ok (.aload_n 0, 1) := by decide +kernel
theorem dX2_costOfWaiting_15 : decode cX2_costOfWaiting 15 = .ok (.getfield 11, 3) := by decide +kernel
theorem dX2_costOfWaiting_18 : decode cX2_costOfWaiting 18 = .ok (.aload_n 0, 1) := by decide +kernel
theorem dX2_costOfWaiting_19 : decode cX2_costOfWaiting 19 = .ok (.getfield 24, 3) := by decide +kernel
theorem dX2_costOfWaiting_22 : decode cX2_costOfWaiting 22 = .ok (.iload_n 3, 1) := by decide +kernel
theorem dX2_costOfWaiting_23 : decode cX2_costOfWaiting 23 = .ok (.iaload, 1) := by decide +kernel
theorem dX2_costOfWaiting_24 : decode cX2_costOfWaiting 24 = .ok (.aaload, 1) := by decide +kernel
theorem dX2_costOfWaiting_25 : decode cX2_costOfWaiting 25 = .ok (.astore 4, 2) := by decide +kernel
theorem dX2_costOfWaiting_27 : decode cX2_costOfWaiting 27 = .ok (.iconst 0, 1) := by decide +kernel
theorem dX2_costOfWaiting_28 : decode cX2_costOfWaiting 28 = .ok (.istore 5, 2) := by decide +kernel
theorem dX2_costOfWaiting_30 : decode cX2_costOfWaiting 30 = .ok (.iload_n 3, 1) := by decide +kernel
theorem dX2_costOfWaiting_31 : decode cX2_costOfWaiting 31 = .ok (.iconst 1, 1) := by decide +kernel
theorem dX2_costOfWaiting_32 : decode cX2_costOfWaiting 32 = .ok (.iadd, 1) := by decide +kernel
theorem dX2_costOfWaiting_33 : decode cX2_costOfWaiting 33 = .ok (.istore 6, 2) := by decide +kernel
theorem dX2_costOfWaiting_35 : decode cX2_costOfWaiting 35 = .ok (.iload 6, 2) := by decide +kernel
theorem dX2_costOfWaiting_37 : decode cX2_costOfWaiting 37 = .ok (.aload_n 0, 1) := by decide +kernel
theorem dX2_costOfWaiting_38 : decode cX2_costOfWaiting 38 = .ok (.getfield 41, 3) := by decide +kernel
theorem dX2_costOfWaiting_41 : decode cX2_costOfWaiting 41 = .ok (.if_icmp .ge 29, 3) := by decide +kernel
theorem dX2_costOfWaiting_44 : decode cX2_costOfWaiting 44 = .ok (.iload 5, 2) := by decide +kernel
theorem dX2_costOfWaiting_46 : decode cX2_costOfWaiting 46 = .ok (.aload_n 0, 1) := by decide +kernel
theorem dX2_costOfWaiting_47 : decode cX2_costOfWaiting 47 = .ok (.getfield 11, 3) := by decide +kernel
theorem dX2_costOfWaiting_50 : decode cX2_costOfWaiting 50 = .ok (.aload_n 0, 1) := by decide +kernel
theorem dX2_costOfWaiting_51 : decode cX2_costOfWaiting 51 = .ok (.getfield 24, 3) := by decide +kernel
theorem dX2_costOfWaiting_54 : decode cX2_costOfWaiting 54 = .ok (.iload 6, 2) := by decide +kernel
theorem dX2_costOfWaiting_56 : decode cX2_costOfWaiting 56 = .ok (.iaload, 1) := by decide +kernel
theorem dX2_costOfWaiting_57 : decode cX2_costOfWaiting 57 = .ok (.aaload, 1) := by decide +kernel
theorem dX2_costOfWaiting_58 : decode cX2_costOfWaiting 58 = .ok (.getfield 98, 3) := by decide +kernel
theorem dX2_costOfWaiting_61 : decode cX2_costOfWaiting 61 = .ok (.ior, 1) := by decide +kernel
theorem dX2_costOfWaiting_62 : decode cX2_costOfWaiting 62 = .ok (.istore 5, 2) := by decide +kernel
theorem dX2_costOfWaiting_64 : decode cX2_costOfWaiting 64 = .ok (.iinc 6 1, 3) := by decide +kernel
theorem dX2_costOfWaiting_67 : decode cX2_costOfWaiting 67 = .ok (.goto (-32), 3) := by decide +kernel
theorem dX2_costOfWaiting_70 : decode cX2_costOfWaiting 70 = .ok (.iload_n 1, 1) := by decide +kernel
theorem dX2_costOfWaiting_71 : decode cX2_costOfWaiting 71 = .ok (.iload_n 2, 1) := by decide +kernel
theorem dX2_costOfWaiting_72 : decode cX2_costOfWaiting 72 = .ok (.iload 5, 2) := by decide +kernel
theorem dX2_costOfWaiting_74 : decode cX2_costOfWaiting 74 = .ok (.iand, 1) := by decide +kernel
theorem dX2_costOfWaiting_75 : decode cX2_costOfWaiting 75 = .ok (.aload 4, 2) := by decide +kernel
theorem dX2_costOfWaiting_77 : decode cX2_costOfWaiting 77 = .ok (.invokevirtual 105, 3) := by decide +kernel
theorem dX2_costOfWaiting_80 : decode cX2_costOfWaiting 80 = .ok (.iand, 1) := by decide +kernel
theorem dX2_costOfWaiting_81 : decode cX2_costOfWaiting 81 = .ok (.invokestatic 55, 3) := by decide +kernel
theorem dX2_costOfWaiting_84 : decode cX2_costOfWaiting 84 = .ok (.iadd, 1) := by decide +kernel
theorem dX2_costOfWaiting_85 : decode cX2_costOfWaiting 85 = .ok (.istore_n 1, 1) := by decide +kernel
theorem dX2_costOfWaiting_86 : decode cX2_costOfWaiting 86 = .ok (.iload_n 2, 1) := by decide +kernel
theorem dX2_costOfWaiting_87 : decode cX2_costOfWaiting 87 = .ok (.aload 4, 2) := by decide +kernel
theorem dX2_costOfWaiting_89 : decode cX2_costOfWaiting 89 = .ok (.getfield 98, 3) := by decide +kernel
theorem dX2_costOfWaiting_92 : decode cX2_costOfWaiting 92 = .ok (.ior, 1) := by decide +kernel
theorem dX2_costOfWaiting_93 : decode cX2_costOfWaiting 93 = .ok (.istore_n 2, 1) := by decide +kernel
theorem dX2_costOfWaiting_94 : decode cX2_costOfWaiting 94 = .ok (.iinc 3 1, 3) := by decide +kernel
theorem dX2_costOfWaiting_97 : decode cX2_costOfWaiting 97 = .ok (.goto (-91), 3) := by decide +kernel
theorem dX2_costOfWaiting_100 : decode cX2_costOfWaiting 100 = .ok (.iload_n 1, 1) := by decide +kernel
theorem dX2_costOfWaiting_101 : decode cX2_costOfWaiting 101 = .ok (.ireturn, 1) := by decide +kernel
set_option maxRecDepth 20000 in
theorem ggX2_familyOf_X2_neighboursOf : GoodIn wsX2_familyOf wsX2_neighboursOf := goodIn_r _ [7, 1, 8, 9, 10, 11, 12, 13, 14, 15, 16, 17, 18, 19, 27, 28, 29, 30, 31, 32, 33, 34, 35, 36, 37, 38, 39, 40, 41, 42] (by decide +kernel) (by decide +kernel)
set_option maxRecDepth 20000 in
theorem gX2_familyOf_X2_neighboursOf : GoodIn wsX2_familyOf (wsV RX2 109 RX2 yX2_neighboursOf wsX2_neighboursOf) := goodIn_app (goodIn_of _ (by decide +kernel)) ggX2_familyOf_X2_neighboursOf
set_option maxRecDepth 20000 in
theorem ggX2_familyOf_X2_reachedFrom : GoodIn wsX2_familyOf wsX2_reachedFrom := goodIn_r _ [23, 1, 2, 24, 25, 26, 27, 28, 29, 30, 31, 32, 33] (by decide +kernel) (by decide +kernel)
set_option maxRecDepth 20000 in
theorem gX2_familyOf_X2_reachedFrom : GoodIn wsX2_familyOf (wsV RX2 65 RX2 yX2_reachedFrom wsX2_reachedFrom) := goodIn_app (goodIn_of _ (by decide +kernel)) ggX2_familyOf_X2_reachedFrom
set_option maxRecDepth 20000 in
theorem ggX2_familyOf_X5_isIn : GoodIn wsX2_familyOf wsX5_isIn := goodIn_r _ [26] (by decide +kernel) (by decide +kernel)
set_option maxRecDepth 20000 in
theorem gX2_familyOf_X5_isIn_n61 : GoodIn wsX2_familyOf (wsX5_isIn) := ggX2_familyOf_X5_isIn
theorem dX2_familyOf_0 : decode cX2_familyOf 0 = .ok (.iconst 0, 1) := by decide +kernel
theorem dX2_familyOf_1 : decode cX2_familyOf 1 = .ok (.istore_n 3, 1) := by decide +kernel
theorem dX2_familyOf_2 : decode cX2_familyOf 2 = .ok (.iload_n 3, 1) := by decide +kernel
theorem dX2_familyOf_3 : decode cX2_familyOf 3 = .ok (.aload_n 0, 1) := by decide +kernel
theorem dX2_familyOf_4 : decode cX2_familyOf 4 = .ok (.getfield 41, 3) := by decide +kernel
theorem dX2_familyOf_7 : decode cX2_familyOf 7 = .ok (.if_icmp .ge 21, 3) := by decide +kernel
theorem dX2_familyOf_10 : decode cX2_familyOf 10 = .ok (.aload_n 0, 1) := by decide +kernel
theorem dX2_familyOf_11 : decode cX2_familyOf 11 = .ok (.getfield 27, 3) := by decide +kernel
theorem dX2_familyOf_14 : decode cX2_familyOf 14 = .ok (.iload_n 3, 1) := by decide +kernel
theorem dX2_familyOf_15 : decode cX2_familyOf 15 = .ok (.aload_n 0, 1) := by decide +kernel
theorem dX2_familyOf_16 : decode cX2_familyOf 16 = .ok (.iload_n 3, 1) := by decide +kernel
theorem dX2_familyOf_17 : decode cX2_familyOf 17 = .ok (.iload_n 2, 1) := by decide +kernel
theorem dX2_familyOf_18 : decode cX2_familyOf 18 = .ok (.invokevirtual 109, 3) := by decide +kernel
theorem dX2_familyOf_21 : decode cX2_familyOf 21 = .ok (.iastore, 1) := by decide +kernel
theorem dX2_familyOf_22 : decode cX2_familyOf 22 = .ok (.iinc 3 1, 3) := by decide +kernel
theorem dX2_familyOf_25 : decode cX2_familyOf 25 = .ok (.goto (-23), 3) := by decide +kernel
theorem dX2_familyOf_28 : decode cX2_familyOf 28 = .ok (.aload_n 0, 1) := by decide +kernel
theorem dX2_familyOf_29 : decode cX2_familyOf 29 = .ok (.iconst 1, 1) := by decide +kernel
theorem dX2_familyOf_30 : decode cX2_familyOf 30 = .ok (.iload_n 1, 1) := by decide +kernel
theorem dX2_familyOf_31 : decode cX2_familyOf 31 = .ok (.ishl, 1) := by decide +kernel
theorem dX2_familyOf_32 : decode cX2_familyOf 32 = .ok (.invokevirtual 65, 3) := by decide +kernel
theorem dX2_familyOf_35 : decode cX2_familyOf 35 = .ok (.istore_n 3, 1) := by decide +kernel
theorem dX2_familyOf_36 : decode cX2_familyOf 36 = .ok (.iconst 0, 1) := by decide +kernel
theorem dX2_familyOf_37 : decode cX2_familyOf 37 = .ok (.istore 4, 2) := by decide +kernel
theorem dX2_familyOf_39 : decode cX2_familyOf 39 = .ok (.iload 4, 2) := by decide +kernel
theorem dX2_familyOf_41 : decode cX2_familyOf 41 = .ok (.iload_n 1, 1) := by decide +kernel
theorem dX2_familyOf_42 : decode cX2_familyOf 42 = .ok (.if_icmp .ge 21, 3) := by decide +kernel
theorem dX2_familyOf_45 : decode cX2_familyOf 45 = .ok (.iload_n 3, 1) := by decide +kernel
theorem dX2_familyOf_46 : decode cX2_familyOf 46 = .ok (.iload 4, 2) := by decide +kernel
theorem dX2_familyOf_48 : decode cX2_familyOf 48 = .ok (.invokestatic 61, 3) := by decide +kernel
theorem dX2_familyOf_51 : decode cX2_familyOf 51 = .ok (.ifCond .eq 6, 3) := by decide +kernel
theorem dX2_familyOf_54 : decode cX2_familyOf 54 = .ok (.iload 4, 2) := by decide +kernel
theorem dX2_familyOf_56 : decode cX2_familyOf 56 = .ok (.ireturn, 1) := by decide +kernel
theorem dX2_familyOf_57 : decode cX2_familyOf 57 = .ok (.iinc 4 1, 3) := by decide +kernel
theorem dX2_familyOf_60 : decode cX2_familyOf 60 = .ok (.goto (-21), 3) := by decide +kernel
theorem dX2_familyOf_63 : decode cX2_familyOf 63 = .ok (.iload_n 1, 1) := by decide +kernel
theorem dX2_familyOf_64 : decode cX2_familyOf 64 = .ok (.ireturn, 1) := by decide +kernel
set_option maxRecDepth 20000 in
theorem ggX2_neighboursOf_X1_isWithin : GoodIn wsX2_neighboursOf wsX1_isWithin := goodIn_r _ [7, 8, 9, 10, 11, 12, 13, 21, 22, 23, 24, 25, 26, 27, 28, 29] (by decide +kernel) (by decide +kernel)
set_option maxRecDepth 20000 in
theorem gX2_neighboursOf_X1_isWithin : GoodIn wsX2_neighboursOf (wsV RX2 112 RX1 yX1_isWithin wsX1_isWithin) := goodIn_app (goodIn_of _ (by decide +kernel)) ggX2_neighboursOf_X1_isWithin
theorem dX2_neighboursOf_0 : decode cX2_neighboursOf 0 = .ok (.iconst 0, 1) := by decide +kernel
theorem dX2_neighboursOf_1 : decode cX2_neighboursOf 1 = .ok (.istore_n 3, 1) := by decide +kernel
theorem dX2_neighboursOf_2 : decode cX2_neighboursOf 2 = .ok (.iconst 0, 1) := by decide +kernel
theorem dX2_neighboursOf_3 : decode cX2_neighboursOf 3 = .ok (.istore 4, 2) := by decide +kernel
theorem dX2_neighboursOf_5 : decode cX2_neighboursOf 5 = .ok (.iload 4, 2) := by decide +kernel
theorem dX2_neighboursOf_7 : decode cX2_neighboursOf 7 = .ok (.aload_n 0, 1) := by decide +kernel
theorem dX2_neighboursOf_8 : decode cX2_neighboursOf 8 = .ok (.getfield 41, 3) := by decide +kernel
theorem dX2_neighboursOf_11 : decode cX2_neighboursOf 11 = .ok (.if_icmp .ge 36, 3) := by decide +kernel
theorem dX2_neighboursOf_14 : decode cX2_neighboursOf 14 = .ok (.aload_n 0, 1) := by decide +kernel
theorem dX2_neighboursOf_15 : decode cX2_neighboursOf 15 = .ok (.getfield 11, 3) := by decide +kernel
theorem dX2_neighboursOf_18 : decode cX2_neighboursOf 18 = .ok (.iload_n 1, 1) := by decide +kernel
theorem dX2_neighboursOf_19 : decode cX2_neighboursOf 19 = .ok (.aaload, 1) := by decide +kernel
theorem dX2_neighboursOf_20 : decode cX2_neighboursOf 20 = .ok (.iload_n 2, 1) := by decide +kernel
theorem dX2_neighboursOf_21 : decode cX2_neighboursOf 21 = .ok (.aload_n 0, 1) := by decide +kernel
theorem dX2_neighboursOf_22 : decode cX2_neighboursOf 22 = .ok (.getfield 11, 3) := by decide +kernel
theorem dX2_neighboursOf_25 : decode cX2_neighboursOf 25 = .ok (.iload 4, 2) := by decide +kernel
theorem dX2_neighboursOf_27 : decode cX2_neighboursOf 27 = .ok (.aaload, 1) := by decide +kernel
theorem dX2_neighboursOf_28 : decode cX2_neighboursOf 28 = .ok (.invokevirtual 112, 3) := by decide +kernel
theorem dX2_neighboursOf_31 : decode cX2_neighboursOf 31 = .ok (.ifCond .eq 10, 3) := by decide +kernel
theorem dX2_neighboursOf_34 : decode cX2_neighboursOf 34 = .ok (.iload_n 3, 1) := by decide +kernel
theorem dX2_neighboursOf_35 : decode cX2_neighboursOf 35 = .ok (.iconst 1, 1) := by decide +kernel
theorem dX2_neighboursOf_36 : decode cX2_neighboursOf 36 = .ok (.iload 4, 2) := by decide +kernel
theorem dX2_neighboursOf_38 : decode cX2_neighboursOf 38 = .ok (.ishl, 1) := by decide +kernel
theorem dX2_neighboursOf_39 : decode cX2_neighboursOf 39 = .ok (.ior, 1) := by decide +kernel
theorem dX2_neighboursOf_40 : decode cX2_neighboursOf 40 = .ok (.istore_n 3, 1) := by decide +kernel
theorem dX2_neighboursOf_41 : decode cX2_neighboursOf 41 = .ok (.iinc 4 1, 3) := by decide +kernel
theorem dX2_neighboursOf_44 : decode cX2_neighboursOf 44 = .ok (.goto (-39), 3) := by decide +kernel
theorem dX2_neighboursOf_47 : decode cX2_neighboursOf 47 = .ok (.iload_n 3, 1) := by decide +kernel
theorem dX2_neighboursOf_48 : decode cX2_neighboursOf 48 = .ok (.ireturn, 1) := by decide +kernel
set_option maxRecDepth 20000 in
theorem ggX2_sharedGoods_J6_bitCount_0f7a4 : GoodIn wsX2_sharedGoods wsJ6_bitCount_0f7a4 := goodIn_r _ [6, 7, 8, 9] (by decide +kernel) (by decide +kernel)
set_option maxRecDepth 20000 in
theorem gX2_sharedGoods_J6_bitCount_0f7a4 : GoodIn wsX2_sharedGoods (va_wsS RX2 55 yJ6_bitCount_0f7a4 wsJ6_bitCount_0f7a4) := goodIn_app (goodIn_of _ (by decide +kernel)) ggX2_sharedGoods_J6_bitCount_0f7a4
theorem dX2_sharedGoods_0 : decode cX2_sharedGoods 0 = .ok (.aload_n 0, 1) := by decide +kernel
theorem dX2_sharedGoods_1 : decode cX2_sharedGoods 1 = .ok (.getfield 11, 3) := by decide +kernel
theorem dX2_sharedGoods_4 : decode cX2_sharedGoods 4 = .ok (.iload_n 1, 1) := by decide +kernel
theorem dX2_sharedGoods_5 : decode cX2_sharedGoods 5 = .ok (.aaload, 1) := by decide +kernel
theorem dX2_sharedGoods_6 : decode cX2_sharedGoods 6 = .ok (.getfield 98, 3) := by decide +kernel
theorem dX2_sharedGoods_9 : decode cX2_sharedGoods 9 = .ok (.aload_n 0, 1) := by decide +kernel
theorem dX2_sharedGoods_10 : decode cX2_sharedGoods 10 = .ok (.getfield 11, 3) := by decide +kernel
theorem dX2_sharedGoods_13 : decode cX2_sharedGoods 13 = .ok (.iload_n 2, 1) := by decide +kernel
theorem dX2_sharedGoods_14 : decode cX2_sharedGoods 14 = .ok (.aaload, 1) := by decide +kernel
theorem dX2_sharedGoods_15 : decode cX2_sharedGoods 15 = .ok (.getfield 98, 3) := by decide +kernel
theorem dX2_sharedGoods_18 : decode cX2_sharedGoods 18 = .ok (.iand, 1) := by decide +kernel
theorem dX2_sharedGoods_19 : decode cX2_sharedGoods 19 = .ok (.invokestatic 55, 3) := by decide +kernel
theorem dX2_sharedGoods_22 : decode cX2_sharedGoods 22 = .ok (.ireturn, 1) := by decide +kernel
set_option maxRecDepth 20000 in
theorem ggX2_joinedGoods_J6_bitCount_0f7a4 : GoodIn wsX2_joinedGoods wsJ6_bitCount_0f7a4 := goodIn_r _ [10, 11, 12, 13] (by decide +kernel) (by decide +kernel)
set_option maxRecDepth 20000 in
theorem gX2_joinedGoods_J6_bitCount_0f7a4 : GoodIn wsX2_joinedGoods (va_wsS RX2 55 yJ6_bitCount_0f7a4 wsJ6_bitCount_0f7a4) := goodIn_app (goodIn_of _ (by decide +kernel)) ggX2_joinedGoods_J6_bitCount_0f7a4
theorem dX2_joinedGoods_0 : decode cX2_joinedGoods 0 = .ok (.iconst 1, 1) := by decide +kernel
theorem dX2_joinedGoods_1 : decode cX2_joinedGoods 1 = .ok (.aload_n 0, 1) := by decide +kernel
theorem dX2_joinedGoods_2 : decode cX2_joinedGoods 2 = .ok (.getfield 11, 3) := by decide +kernel
theorem dX2_joinedGoods_5 : decode cX2_joinedGoods 5 = .ok (.iload_n 1, 1) := by decide +kernel
theorem dX2_joinedGoods_6 : decode cX2_joinedGoods 6 = .ok (.aaload, 1) := by decide +kernel
theorem dX2_joinedGoods_7 : decode cX2_joinedGoods 7 = .ok (.getfield 98, 3) := by decide +kernel
theorem dX2_joinedGoods_10 : decode cX2_joinedGoods 10 = .ok (.aload_n 0, 1) := by decide +kernel
theorem dX2_joinedGoods_11 : decode cX2_joinedGoods 11 = .ok (.getfield 11, 3) := by decide +kernel
theorem dX2_joinedGoods_14 : decode cX2_joinedGoods 14 = .ok (.iload_n 2, 1) := by decide +kernel
theorem dX2_joinedGoods_15 : decode cX2_joinedGoods 15 = .ok (.aaload, 1) := by decide +kernel
theorem dX2_joinedGoods_16 : decode cX2_joinedGoods 16 = .ok (.getfield 98, 3) := by decide +kernel
theorem dX2_joinedGoods_19 : decode cX2_joinedGoods 19 = .ok (.ior, 1) := by decide +kernel
theorem dX2_joinedGoods_20 : decode cX2_joinedGoods 20 = .ok (.invokestatic 55, 3) := by decide +kernel
theorem dX2_joinedGoods_23 : decode cX2_joinedGoods 23 = .ok (.invokestatic 77, 3) := by decide +kernel
theorem dX2_joinedGoods_26 : decode cX2_joinedGoods 26 = .ok (.ireturn, 1) := by decide +kernel
set_option maxRecDepth 20000 in
theorem ggX2_mostLike_X2_sharedGoods : GoodIn wsX2_mostLike wsX2_sharedGoods := goodIn_r _ [6, 7, 8, 9, 10, 11, 12, 13, 14, 15, 24, 25, 26, 27, 28, 29, 30, 31, 32, 33, 34, 35, 36, 37, 38, 39] (by decide +kernel) (by decide +kernel)
set_option maxRecDepth 20000 in
theorem gX2_mostLike_X2_sharedGoods : GoodIn wsX2_mostLike (wsV RX2 116 RX2 yX2_sharedGoods wsX2_sharedGoods) := goodIn_app (goodIn_of _ (by decide +kernel)) ggX2_mostLike_X2_sharedGoods
set_option maxRecDepth 20000 in
theorem ggX2_mostLike_X2_joinedGoods : GoodIn wsX2_mostLike wsX2_joinedGoods := goodIn_r _ [19, 7, 8, 20, 21, 22, 23, 9, 10, 11, 12, 13, 14, 15, 24, 25, 26, 27, 28, 29, 30, 31, 32, 33, 34, 35, 36, 37, 38, 39] (by decide +kernel) (by decide +kernel)
set_option maxRecDepth 20000 in
theorem gX2_mostLike_X2_joinedGoods : GoodIn wsX2_mostLike (wsV RX2 119 RX2 yX2_joinedGoods wsX2_joinedGoods) := goodIn_app (goodIn_of _ (by decide +kernel)) ggX2_mostLike_X2_joinedGoods
theorem dX2_mostLike_0 : decode cX2_mostLike 0 = .ok (.iconst (-1), 1) := by decide +kernel
theorem dX2_mostLike_1 : decode cX2_mostLike 1 = .ok (.istore_n 2, 1) := by decide +kernel
theorem dX2_mostLike_2 : decode cX2_mostLike 2 = .ok (.iconst 0, 1) := by decide +kernel
theorem dX2_mostLike_3 : decode cX2_mostLike 3 = .ok (.istore_n 3, 1) := by decide +kernel
theorem dX2_mostLike_4 : decode cX2_mostLike 4 = .ok (.iconst 1, 1) := by decide +kernel
theorem dX2_mostLike_5 : decode cX2_mostLike 5 = .ok (.istore 4, 2) := by decide +kernel
theorem dX2_mostLike_7 : decode cX2_mostLike 7 = .ok (.iconst 0, 1) := by decide +kernel
theorem dX2_mostLike_8 : decode cX2_mostLike 8 = .ok (.istore 5, 2) := by decide +kernel
theorem dX2_mostLike_10 : decode cX2_mostLike 10 = .ok (.iload 5, 2) := by decide +kernel
theorem dX2_mostLike_12 : decode cX2_mostLike 12 = .ok (.aload_n 0, 1) := by decide +kernel
theorem dX2_mostLike_13 : decode cX2_mostLike 13 = .ok (.getfield 41, 3) := by decide +kernel
theorem dX2_mostLike_16 : decode cX2_mostLike 16 = .ok (.if_icmp .ge 62, 3) := by decide +kernel
theorem dX2_mostLike_19 : decode cX2_mostLike 19 = .ok (.iload 5, 2) := by decide +kernel
theorem dX2_mostLike_21 : decode cX2_mostLike 21 = .ok (.iload_n 1, 1) := by decide +kernel
theorem dX2_mostLike_22 : decode cX2_mostLike 22 = .ok (.if_icmp .ne 6, 3) := by decide +kernel
theorem dX2_mostLike_25 : decode cX2_mostLike 25 = .ok (.goto 47, 3) := by decide +kernel
theorem dX2_mostLike_28 : decode cX2_mostLike 28 = .ok (.aload_n 0, 1) := by decide +kernel
theorem dX2_mostLike_29 : decode cX2_mostLike 29 = .ok (.iload_n 1, 1) := by decide +kernel
theorem dX2_mostLike_30 : decode cX2_mostLike 30 = .ok (.iload 5, 2) := by decide +kernel
theorem dX2_mostLike_32 : decode cX2_mostLike 32 = .ok (.invokevirtual 116, 3) := by decide +kernel
theorem dX2_mostLike_35 : decode cX2_mostLike 35 = .ok (.istore 6, 2) := by decide +kernel
theorem dX2_mostLike_37 : decode cX2_mostLike 37 = .ok (.aload_n 0, 1) := by decide +kernel
theorem dX2_mostLike_38 : decode cX2_mostLike 38 = .ok (.iload_n 1, 1) := by decide +kernel
theorem dX2_mostLike_39 : decode cX2_mostLike 39 = .ok (.iload 5, 2) := by decide +kernel
theorem dX2_mostLike_41 : decode cX2_mostLike 41 = .ok (.invokevirtual 119, 3) := by decide +kernel
theorem dX2_mostLike_44 : decode cX2_mostLike 44 = .ok (.istore 7, 2) := by decide +kernel
theorem dX2_mostLike_46 : decode cX2_mostLike 46 = .ok (.iload_n 2, 1) := by decide +kernel
theorem dX2_mostLike_47 : decode cX2_mostLike 47 = .ok (.ifCond .lt 15, 3) := by decide +kernel
theorem dX2_mostLike_50 : decode cX2_mostLike 50 = .ok (.iload 6, 2) := by decide +kernel
theorem dX2_mostLike_52 : decode cX2_mostLike 52 = .ok (.iload 4, 2) := by decide +kernel
theorem dX2_mostLike_54 : decode cX2_mostLike 54 = .ok (.imul, 1) := by decide +kernel
theorem dX2_mostLike_55 : decode cX2_mostLike 55 = .ok (.iload_n 3, 1) := by decide +kernel
theorem dX2_mostLike_56 : decode cX2_mostLike 56 = .ok (.iload 7, 2) := by decide +kernel
theorem dX2_mostLike_58 : decode cX2_mostLike 58 = .ok (.imul, 1) := by decide +kernel
theorem dX2_mostLike_59 : decode cX2_mostLike 59 = .ok (.if_icmp .le 13, 3) := by decide +kernel
theorem dX2_mostLike_62 : decode cX2_mostLike 62 = .ok (.iload 5, 2) := by decide +kernel
theorem dX2_mostLike_64 : decode cX2_mostLike 64 = .ok (.istore_n 2, 1) := by decide +kernel
theorem dX2_mostLike_65 : decode cX2_mostLike 65 = .ok (.iload 6, 2) := by decide +kernel
theorem dX2_mostLike_67 : decode cX2_mostLike 67 = .ok (.istore_n 3, 1) := by decide +kernel
theorem dX2_mostLike_68 : decode cX2_mostLike 68 = .ok (.iload 7, 2) := by decide +kernel
theorem dX2_mostLike_70 : decode cX2_mostLike 70 = .ok (.istore 4, 2) := by decide +kernel
theorem dX2_mostLike_72 : decode cX2_mostLike 72 = .ok (.iinc 5 1, 3) := by decide +kernel
theorem dX2_mostLike_75 : decode cX2_mostLike 75 = .ok (.goto (-65), 3) := by decide +kernel
theorem dX2_mostLike_78 : decode cX2_mostLike 78 = .ok (.iload_n 2, 1) := by decide +kernel
theorem dX2_mostLike_79 : decode cX2_mostLike 79 = .ok (.ireturn, 1) := by decide +kernel
theorem dX2_weightsFor_0 : decode cX2_weightsFor 0 = .ok (.iload_n 1, 1) := by decide +kernel
theorem dX2_weightsFor_1 : decode cX2_weightsFor 1 = .ok (.ifCond .eq 10, 3) := by decide +kernel
theorem dX2_weightsFor_4 : decode cX2_weightsFor 4 = .ok (.aload_n 0, 1) := by decide +kernel
theorem dX2_weightsFor_5 : decode cX2_weightsFor 5 = .ok (.getfield 17, 3) := by decide +kernel
theorem dX2_weightsFor_8 : decode cX2_weightsFor 8 = .ok (.goto 7, 3) := by decide +kernel
theorem dX2_weightsFor_11 : decode cX2_weightsFor 11 = .ok (.aload_n 0, 1) := by decide +kernel
theorem dX2_weightsFor_12 : decode cX2_weightsFor 12 = .ok (.getfield 21, 3) := by decide +kernel
theorem dX2_weightsFor_15 : decode cX2_weightsFor 15 = .ok (.areturn, 1) := by decide +kernel
set_option maxRecDepth 20000 in
theorem ggX2_productOfMarks_X2_weightsFor : GoodIn wsX2_productOfMarks wsX2_weightsFor := goodIn_r _ [8, 9, 10, 14, 15, 16, 17, 18, 19, 20] (by decide +kernel) (by decide +kernel)
set_option maxRecDepth 20000 in
theorem gX2_productOfMarks_X2_weightsFor : GoodIn wsX2_productOfMarks (wsV RX2 122 RX2 yX2_weightsFor wsX2_weightsFor) := goodIn_app (goodIn_of _ (by decide +kernel)) ggX2_productOfMarks_X2_weightsFor
set_option maxRecDepth 20000 in
theorem ggX2_productOfMarks_X5_isIn : GoodIn wsX2_productOfMarks wsX5_isIn := goodIn_r _ [13] (by decide +kernel) (by decide +kernel)
set_option maxRecDepth 20000 in
theorem gX2_productOfMarks_X5_isIn_n61 : GoodIn wsX2_productOfMarks (wsX5_isIn) := ggX2_productOfMarks_X5_isIn
theorem dX2_productOfMarks_0 : decode cX2_productOfMarks 0 = .ok (.aload_n 0, 1) := by decide +kernel
theorem dX2_productOfMarks_1 : decode cX2_productOfMarks 1 = .ok (.getfield 11, 3) := by decide +kernel
theorem dX2_productOfMarks_4 : decode cX2_productOfMarks 4 = .ok (.iload_n 1, 1) := by decide +kernel
theorem dX2_productOfMarks_5 : decode cX2_productOfMarks 5 = .ok (.aaload, 1) := by decide +kernel
theorem dX2_productOfMarks_6 : decode cX2_productOfMarks 6 = .ok (.astore_n 3, 1) := by decide +kernel
theorem dX2_productOfMarks_7 : decode cX2_productOfMarks 7 = .ok (.aload_n 0, 1) := by decide +kernel
theorem dX2_productOfMarks_8 : decode cX2_productOfMarks 8 = .ok (.iload_n 2, 1) := by decide +kernel
theorem dX2_productOfMarks_9 : decode cX2_productOfMarks 9 = .ok (.invokevirtual 122, 3) := by decide +kernel
theorem dX2_productOfMarks_12 : decode cX2_productOfMarks 12 = .ok (.astore 4, 2) := by decide +kernel
theorem dX2_productOfMarks_14 : decode cX2_productOfMarks 14 = .ok (.lconst 1, 1) := by decide +kernel
theorem dX2_productOfMarks_15 : decode cX2_productOfMarks 15 = .ok (.lstore 5, 2) := by decide +kernel
theorem dX2_productOfMarks_17 : decode cX2_productOfMarks 17 = .ok (.iconst 0, 1) := by decide +kernel
theorem dX2_productOfMarks_18 : decode cX2_productOfMarks 18 = .ok (.istore 7, 2) := by decide +kernel
theorem dX2_productOfMarks_20 : decode cX2_productOfMarks 20 = .ok (.iload 7, 2) := by decide +kernel
theorem dX2_productOfMarks_22 : decode cX2_productOfMarks 22 = .ok (.bipush 6, 2) := by decide +kernel
theorem dX2_productOfMarks_24 : decode cX2_productOfMarks 24 = .ok (.if_icmp .ge 69, 3) := by decide +kernel
theorem dX2_productOfMarks_27 : decode cX2_productOfMarks 27 = .ok (.aload_n 3, 1) := by decide +kernel
theorem dX2_productOfMarks_28 : decode cX2_productOfMarks 28 = .ok (.getfield 126, 3) := by decide +kernel
theorem dX2_productOfMarks_31 : decode cX2_productOfMarks 31 = .ok (.iload 7, 2) := by decide +kernel
theorem dX2_productOfMarks_33 : decode cX2_productOfMarks 33 = .ok (.invokestatic 61, 3) := by decide +kernel
theorem dX2_productOfMarks_36 : decode cX2_productOfMarks 36 = .ok (.ifCond .eq 51, 3) := by decide +kernel
theorem dX2_productOfMarks_39 : decode cX2_productOfMarks 39 = .ok (.aload_n 3, 1) := by decide +kernel
theorem dX2_productOfMarks_40 : decode cX2_productOfMarks 40 = .ok (.getfield 129, 3) := by decide +kernel
theorem dX2_productOfMarks_43 : decode cX2_productOfMarks 43 = .ok (.iload 7, 2) := by decide +kernel
theorem dX2_productOfMarks_45 : decode cX2_productOfMarks 45 = .ok (.invokestatic 61, 3) := by decide +kernel
theorem dX2_productOfMarks_48 : decode cX2_productOfMarks 48 = .ok (.iload_n 2, 1) := by decide +kernel
theorem dX2_productOfMarks_49 : decode cX2_productOfMarks 49 = .ok (.if_icmp .ne 7, 3) := by decide +kernel
theorem dX2_productOfMarks_52 : decode cX2_productOfMarks 52 = .ok (.iconst 1, 1) := by decide +kernel
theorem dX2_productOfMarks_53 : decode cX2_productOfMarks 53 = .ok (.goto 4, 3) := by decide +kernel
theorem dX2_productOfMarks_56 : decode cX2_productOfMarks 56 = .ok (.iconst 0, 1) := by decide +kernel
theorem dX2_productOfMarks_57 : decode cX2_productOfMarks 57 = .ok (.istore 8, 2) := by decide +kernel
theorem dX2_productOfMarks_59 : decode cX2_productOfMarks 59 = .ok (.lload 5, 2) := by decide +kernel
theorem dX2_productOfMarks_61 : decode cX2_productOfMarks 61 = .ok (.iload 8, 2) := by decide +kernel
theorem dX2_productOfMarks_63 : decode cX2_productOfMarks 63 = .ok (.ifCond .eq 12, 3) := by decide +kernel
theorem dX2_productOfMarks_66 : decode cX2_productOfMarks 66 = .ok (.aload 4, 2) := by decide +kernel
theorem dX2_productOfMarks_68 : decode cX2_productOfMarks 68 = .ok (.iload 7, 2) := by decide +kernel
theorem dX2_productOfMarks_70 : decode cX2_productOfMarks 70 = .ok (.iaload, 1) := by decide +kernel
theorem dX2_productOfMarks_71 : decode cX2_productOfMarks 71 = .ok (.i2l, 1) := by decide +kernel
theorem dX2_productOfMarks_72 : decode cX2_productOfMarks 72 = .ok (.goto 12, 3) := by decide +kernel
theorem dX2_productOfMarks_75 : decode cX2_productOfMarks 75 = .ok (.bipush 21, 2) := by decide +kernel
theorem dX2_productOfMarks_77 : decode cX2_productOfMarks 77 = .ok (.aload 4, 2) := by decide +kernel
theorem dX2_productOfMarks_79 : decode cX2_productOfMarks 79 = .ok (.iload 7, 2) := by decide +kernel
theorem dX2_productOfMarks_81 : decode cX2_productOfMarks 81 = .ok (.iaload, 1) := by decide +kernel
theorem dX2_productOfMarks_82 : decode cX2_productOfMarks 82 = .ok (.isub, 1) := by decide +kernel
theorem dX2_productOfMarks_83 : decode cX2_productOfMarks 83 = .ok (.i2l, 1) := by decide +kernel
theorem dX2_productOfMarks_84 : decode cX2_productOfMarks 84 = .ok (.lmul, 1) := by decide +kernel
theorem dX2_productOfMarks_85 : decode cX2_productOfMarks 85 = .ok (.lstore 5, 2) := by decide +kernel
theorem dX2_productOfMarks_87 : decode cX2_productOfMarks 87 = .ok (.iinc 7 1, 3) := by decide +kernel
theorem dX2_productOfMarks_90 : decode cX2_productOfMarks 90 = .ok (.goto (-70), 3) := by decide +kernel
theorem dX2_productOfMarks_93 : decode cX2_productOfMarks 93 = .ok (.lload 5, 2) := by decide +kernel
theorem dX2_productOfMarks_95 : decode cX2_productOfMarks 95 = .ok (.lreturn, 1) := by decide +kernel
set_option maxRecDepth 20000 in
theorem ggX2_whose_X1_isOfKind : GoodIn wsX2_whose wsX1_isOfKind := goodIn_r _ [6, 7, 8, 32, 33, 34, 35, 36, 37, 38, 39, 40] (by decide +kernel) (by decide +kernel)
set_option maxRecDepth 20000 in
theorem gX2_whose_X1_isOfKind : GoodIn wsX2_whose (wsV RX2 132 RX1 yX1_isOfKind wsX1_isOfKind) := goodIn_app (goodIn_of _ (by decide +kernel)) ggX2_whose_X1_isOfKind
set_option maxRecDepth 20000 in
theorem ggX2_whose_X2_productOfMarks : GoodIn wsX2_whose wsX2_productOfMarks := goodIn_r _ [13, 1, 14, 15, 16, 17, 18, 12, 19, 20, 21, 22, 23, 24, 25, 26, 27, 28, 29, 30, 31, 32, 33, 34, 35, 36, 37, 38, 39, 40] (by decide +kernel) (by decide +kernel)
set_option maxRecDepth 20000 in
theorem gX2_whose_X2_productOfMarks : GoodIn wsX2_whose (wsV RX2 135 RX2 yX2_productOfMarks wsX2_productOfMarks) := goodIn_app (goodIn_of _ (by decide +kernel)) ggX2_whose_X2_productOfMarks
theorem dX2_whose_0 : decode cX2_whose 0 = .ok (.aload_n 0, 1) := by decide +kernel
theorem dX2_whose_1 : decode cX2_whose 1 = .ok (.getfield 11, 3) := by decide +kernel
theorem dX2_whose_4 : decode cX2_whose 4 = .ok (.iload_n 1, 1) := by decide +kernel
theorem dX2_whose_5 : decode cX2_whose 5 = .ok (.aaload, 1) := by decide +kernel
theorem dX2_whose_6 : decode cX2_whose 6 = .ok (.iconst 2, 1) := by decide +kernel
theorem dX2_whose_7 : decode cX2_whose 7 = .ok (.invokevirtual 132, 3) := by decide +kernel
theorem dX2_whose_10 : decode cX2_whose 10 = .ok (.ifCond .eq 5, 3) := by decide +kernel
theorem dX2_whose_13 : decode cX2_whose 13 = .ok (.iconst 2, 1) := by decide +kernel
theorem dX2_whose_14 : decode cX2_whose 14 = .ok (.ireturn, 1) := by decide +kernel
theorem dX2_whose_15 : decode cX2_whose 15 = .ok (.aload_n 0, 1) := by decide +kernel
theorem dX2_whose_16 : decode cX2_whose 16 = .ok (.iload_n 1, 1) := by decide +kernel
theorem dX2_whose_17 : decode cX2_whose 17 = .ok (.iconst 1, 1) := by decide +kernel
theorem dX2_whose_18 : decode cX2_whose 18 = .ok (.invokevirtual 135, 3) := by decide +kernel
theorem dX2_whose_21 : decode cX2_whose 21 = .ok (.lstore_n 2, 1) := by decide +kernel
theorem dX2_whose_22 : decode cX2_whose 22 = .ok (.aload_n 0, 1) := by decide +kernel
theorem dX2_whose_23 : decode cX2_whose 23 = .ok (.iload_n 1, 1) := by decide +kernel
theorem dX2_whose_24 : decode cX2_whose 24 = .ok (.iconst 0, 1) := by decide +kernel
theorem dX2_whose_25 : decode cX2_whose 25 = .ok (.invokevirtual 135, 3) := by decide +kernel
theorem dX2_whose_28 : decode cX2_whose 28 = .ok (.lstore 4, 2) := by decide +kernel
theorem dX2_whose_30 : decode cX2_whose 30 = .ok (.lload_n 2, 1) := by decide +kernel
theorem dX2_whose_31 : decode cX2_whose 31 = .ok (.lload 4, 2) := by decide +kernel
theorem dX2_whose_33 : decode cX2_whose 33 = .ok (.lcmp, 1) := by decide +kernel
theorem dX2_whose_34 : decode cX2_whose 34 = .ok (.ifCond .ne 5, 3) := by decide +kernel
theorem dX2_whose_37 : decode cX2_whose 37 = .ok (.iconst 2, 1) := by decide +kernel
theorem dX2_whose_38 : decode cX2_whose 38 = .ok (.ireturn, 1) := by decide +kernel
theorem dX2_whose_39 : decode cX2_whose 39 = .ok (.lload_n 2, 1) := by decide +kernel
theorem dX2_whose_40 : decode cX2_whose 40 = .ok (.lload 4, 2) := by decide +kernel
theorem dX2_whose_42 : decode cX2_whose 42 = .ok (.lcmp, 1) := by decide +kernel
theorem dX2_whose_43 : decode cX2_whose 43 = .ok (.ifCond .le 7, 3) := by decide +kernel
theorem dX2_whose_46 : decode cX2_whose 46 = .ok (.iconst 0, 1) := by decide +kernel
theorem dX2_whose_47 : decode cX2_whose 47 = .ok (.goto 4, 3) := by decide +kernel
theorem dX2_whose_50 : decode cX2_whose 50 = .ok (.iconst 1, 1) := by decide +kernel
theorem dX2_whose_51 : decode cX2_whose 51 = .ok (.ireturn, 1) := by decide +kernel
theorem dX3_init_0 : decode cX3_init 0 = .ok (.aload_n 0, 1) := by decide +kernel
theorem dX3_init_1 : decode cX3_init 1 = .ok (.invokespecial 3, 3) := by decide +kernel
theorem dX3_init_4 : decode cX3_init 4 = .ok (.aload_n 0, 1) := by decide +kernel
theorem dX3_init_5 : decode cX3_init 5 = .ok (.bipush 8, 2) := by decide +kernel
theorem dX3_init_7 : decode cX3_init 7 = .ok (.newarray .int, 2) := by decide +kernel
theorem dX3_init_9 : decode cX3_init 9 = .ok (.putfield 9, 3) := by decide +kernel
theorem dX3_init_12 : decode cX3_init 12 = .ok (.aload_n 0, 1) := by decide +kernel
theorem dX3_init_13 : decode cX3_init 13 = .ok (.bipush 8, 2) := by decide +kernel
theorem dX3_init_15 : decode cX3_init 15 = .ok (.newarray .int, 2) := by decide +kernel
theorem dX3_init_17 : decode cX3_init 17 = .ok (.putfield 15, 3) := by decide +kernel
theorem dX3_init_20 : decode cX3_init 20 = .ok (.aload_n 0, 1) := by decide +kernel
theorem dX3_init_21 : decode cX3_init 21 = .ok (.bipush 8, 2) := by decide +kernel
theorem dX3_init_23 : decode cX3_init 23 = .ok (.newarray .int, 2) := by decide +kernel
theorem dX3_init_25 : decode cX3_init 25 = .ok (.putfield 18, 3) := by decide +kernel
theorem dX3_init_28 : decode cX3_init 28 = .ok (.aload_n 0, 1) := by decide +kernel
theorem dX3_init_29 : decode cX3_init 29 = .ok (.sipush 256, 3) := by decide +kernel
theorem dX3_init_32 : decode cX3_init 32 = .ok (.newarray .int, 2) := by decide +kernel
theorem dX3_init_34 : decode cX3_init 34 = .ok (.putfield 21, 3) := by decide +kernel
theorem dX3_init_37 : decode cX3_init 37 = .ok (.aload_n 0, 1) := by decide +kernel
theorem dX3_init_38 : decode cX3_init 38 = .ok (.sipush 256, 3) := by decide +kernel
theorem dX3_init_41 : decode cX3_init 41 = .ok (.newarray .int, 2) := by decide +kernel
theorem dX3_init_43 : decode cX3_init 43 = .ok (.putfield 24, 3) := by decide +kernel
theorem dX3_init_46 : decode cX3_init 46 = .ok (.aload_n 0, 1) := by decide +kernel
theorem dX3_init_47 : decode cX3_init 47 = .ok (.sipush 256, 3) := by decide +kernel
theorem dX3_init_50 : decode cX3_init 50 = .ok (.newarray .int, 2) := by decide +kernel
theorem dX3_init_52 : decode cX3_init 52 = .ok (.putfield 27, 3) := by decide +kernel
theorem dX3_init_55 : decode cX3_init 55 = .ok (.aload_n 0, 1) := by decide +kernel
theorem dX3_init_56 : decode cX3_init 56 = .ok (.bipush 8, 2) := by decide +kernel
theorem dX3_init_58 : decode cX3_init 58 = .ok (.newarray .int, 2) := by decide +kernel
theorem dX3_init_60 : decode cX3_init 60 = .ok (.putfield 30, 3) := by decide +kernel
theorem dX3_init_63 : decode cX3_init 63 = .ok (.return_, 1) := by decide +kernel
set_option maxRecDepth 20000 in
theorem ggX3_solve_X3_takeIn : GoodIn wsX3_solve wsX3_takeIn := goodIn_r _ [5, 6, 7, 8, 9, 10, 11, 12, 13, 14, 15, 16, 17, 18, 19, 20, 21, 22, 23, 24, 25, 26, 27, 28, 29, 69, 70, 71, 72, 73, 74, 75, 76, 77, 78, 79, 80, 81, 82, 83, 84, 85, 86, 87, 88, 89, 90, 91, 92] (by decide +kernel) (by decide +kernel)
set_option maxRecDepth 20000 in
theorem gX3_solve_X3_takeIn : GoodIn wsX3_solve (wsV RX3 33 RX3 yX3_takeIn wsX3_takeIn) := goodIn_app (goodIn_of _ (by decide +kernel)) ggX3_solve_X3_takeIn
set_option maxRecDepth 20000 in
theorem ggX3_solve_X3_joinGoods : GoodIn wsX3_solve wsX3_joinGoods := goodIn_r _ [33, 6, 34, 14, 69, 70, 71, 72, 73, 74, 75, 76] (by decide +kernel) (by decide +kernel)
set_option maxRecDepth 20000 in
theorem gX3_solve_X3_joinGoods : GoodIn wsX3_solve (wsV RX3 37 RX3 yX3_joinGoods wsX3_joinGoods) := goodIn_app (goodIn_of _ (by decide +kernel)) ggX3_solve_X3_joinGoods
set_option maxRecDepth 20000 in
theorem ggX3_solve_X3_weighSets : GoodIn wsX3_solve wsX3_weighSets := goodIn_r _ [38, 39, 40, 41, 6, 42, 43, 44, 4, 45, 46, 47, 48, 49, 16, 50, 51, 52, 53, 54, 55, 56, 34, 15, 57, 58, 59, 60, 61, 62, 63, 69, 70, 71, 72, 73, 74, 75, 76] (by decide +kernel) (by decide +kernel)
set_option maxRecDepth 20000 in
theorem gX3_solve_X3_weighSets : GoodIn wsX3_solve (wsV RX3 40 RX3 yX3_weighSets wsX3_weighSets) := goodIn_app (goodIn_of _ (by decide +kernel)) ggX3_solve_X3_weighSets
set_option maxRecDepth 20000 in
theorem ggX3_solve_X3_walkFirstRow : GoodIn wsX3_solve wsX3_walkFirstRow := goodIn_r _ [67, 6, 39, 68, 46, 47, 48, 4, 49, 16, 50, 51, 52, 53, 54, 55, 56, 34, 15, 42, 43, 44, 45, 57, 58, 59, 60, 61, 62, 63, 69, 70, 71, 72, 73, 74, 75, 76] (by decide +kernel) (by decide +kernel)
set_option maxRecDepth 20000 in
theorem gX3_solve_X3_walkFirstRow : GoodIn wsX3_solve (wsV RX3 43 RX3 yX3_walkFirstRow wsX3_walkFirstRow) := goodIn_app (goodIn_of _ (by decide +kernel)) ggX3_solve_X3_walkFirstRow
theorem dX3_solve_0 : decode cX3_solve 0 = .ok (.aload_n 0, 1) := by decide +kernel
theorem dX3_solve_1 : decode cX3_solve 1 = .ok (.aload_n 1, 1) := by decide +kernel
theorem dX3_solve_2 : decode cX3_solve 2 = .ok (.iload_n 2, 1) := by decide +kernel
theorem dX3_solve_3 : decode cX3_solve 3 = .ok (.invokevirtual 33, 3) := by decide +kernel
theorem dX3_solve_6 : decode cX3_solve 6 = .ok (.ifCond .ne 4, 3) := by decide +kernel
theorem dX3_solve_9 : decode cX3_solve 9 = .ok (.return_, 1) := by decide +kernel
theorem dX3_solve_10 : decode cX3_solve 10 = .ok (.aload_n 0, 1) := by decide +kernel
theorem dX3_solve_11 : decode cX3_solve 11 = .ok (.invokevirtual 37, 3) := by decide +kernel
theorem dX3_solve_14 : decode cX3_solve 14 = .ok (.aload_n 0, 1) := by decide +kernel
theorem dX3_solve_15 : decode cX3_solve 15 = .ok (.invokevirtual 40, 3) := by decide +kernel
theorem dX3_solve_18 : decode cX3_solve 18 = .ok (.aload_n 0, 1) := by decide +kernel
theorem dX3_solve_19 : decode cX3_solve 19 = .ok (.invokevirtual 43, 3) := by decide +kernel
theorem dX3_solve_22 : decode cX3_solve 22 = .ok (.return_, 1) := by decide +kernel
set_option maxRecDepth 20000 in
theorem ggX3_takeIn_X1_goodsSurelyLacked : GoodIn wsX3_takeIn wsX1_goodsSurelyLacked := goodIn_r _ [17, 18, 19, 20, 21, 16, 22, 23, 24, 40, 41, 42, 43, 44, 45, 46, 47, 48] (by decide +kernel) (by decide +kernel)
set_option maxRecDepth 20000 in
theorem gX3_takeIn_X1_goodsSurelyLacked : GoodIn wsX3_takeIn (wsV RX3 67 RX1 yX1_goodsSurelyLacked wsX1_goodsSurelyLacked) := goodIn_app (goodIn_of _ (by decide +kernel)) ggX3_takeIn_X1_goodsSurelyLacked
theorem dX3_takeIn_0 : decode cX3_takeIn 0 = .ok (.aload_n 0, 1) := by decide +kernel
theorem dX3_takeIn_1 : decode cX3_takeIn 1 = .ok (.getfield 46, 3) := by decide +kernel
theorem dX3_takeIn_4 : decode cX3_takeIn 4 = .ok (.aload_n 1, 1) := by decide +kernel
theorem dX3_takeIn_5 : decode cX3_takeIn 5 = .ok (.getfield 50, 3) := by decide +kernel
theorem dX3_takeIn_8 : decode cX3_takeIn 8 = .ok (.if_icmp .eq 7, 3) := by decide +kernel
theorem dX3_takeIn_11 : decode cX3_takeIn 11 = .ok (.iconst 1, 1) := by decide +kernel
theorem dX3_takeIn_12 : decode cX3_takeIn 12 = .ok (.goto 4, 3) := by decide +kernel
theorem dX3_takeIn_15 : decode cX3_takeIn 15 = .ok (.iconst 0, 1) := by decide +kernel
theorem dX3_takeIn_16 : decode cX3_takeIn 16 = .ok (.istore_n 3, 1) := by decide +kernel
theorem dX3_takeIn_17 : decode cX3_takeIn 17 = .ok (.aload_n 0, 1) := by decide +kernel
theorem dX3_takeIn_18 : decode cX3_takeIn 18 = .ok (.aload_n 1, 1) := by decide +kernel
theorem dX3_takeIn_19 : decode cX3_takeIn 19 = .ok (.getfield 50, 3) := by decide +kernel
theorem dX3_takeIn_22 : decode cX3_takeIn 22 = .ok (.bipush 8, 2) := by decide +kernel
theorem dX3_takeIn_24 : decode cX3_takeIn 24 = .ok (.invokestatic 53, 3) := by decide +kernel
theorem dX3_takeIn_27 : decode cX3_takeIn 27 = .ok (.putfield 46, 3) := by decide +kernel
theorem dX3_takeIn_30 : decode cX3_takeIn 30 = .ok (.iconst 0, 1) := by decide +kernel
theorem dX3_takeIn_31 : decode cX3_takeIn 31 = .ok (.istore 4, 2) := by decide +kernel
theorem dX3_takeIn_33 : decode cX3_takeIn 33 = .ok (.iload 4, 2) := by decide +kernel
theorem dX3_takeIn_35 : decode cX3_takeIn 35 = .ok (.aload_n 0, 1) := by decide +kernel
theorem dX3_takeIn_36 : decode cX3_takeIn 36 = .ok (.getfield 46, 3) := by decide +kernel
theorem dX3_takeIn_39 : decode cX3_takeIn 39 = .ok (.if_icmp .ge 107, 3) := by decide +kernel
theorem dX3_takeIn_42 : decode cX3_takeIn 42 = .ok (.aload_n 1, 1) := by decide +kernel
theorem dX3_takeIn_43 : decode cX3_takeIn 43 = .ok (.getfield 59, 3) := by decide +kernel
theorem dX3_takeIn_46 : decode cX3_takeIn 46 = .ok (.iload 4, 2) := by decide +kernel
theorem dX3_takeIn_48 : decode cX3_takeIn 48 = .ok (.aaload, 1) := by decide +kernel
theorem dX3_takeIn_49 : decode cX3_takeIn 49 = .ok (.astore 5, 2) := by decide +kernel
theorem dX3_takeIn_51 : decode cX3_takeIn 51 = .ok (.aload 5, 2) := by decide +kernel
theorem dX3_takeIn_53 : decode cX3_takeIn 53 = .ok (.getfield 63, 3) := by decide +kernel
theorem dX3_takeIn_56 : decode cX3_takeIn 56 = .ok (.iload_n 2, 1) := by decide +kernel
theorem dX3_takeIn_57 : decode cX3_takeIn 57 = .ok (.iand, 1) := by decide +kernel
theorem dX3_takeIn_58 : decode cX3_takeIn 58 = .ok (.istore 6, 2) := by decide +kernel
theorem dX3_takeIn_60 : decode cX3_takeIn 60 = .ok (.aload 5, 2) := by decide +kernel
theorem dX3_takeIn_62 : decode cX3_takeIn 62 = .ok (.invokevirtual 67, 3) := by decide +kernel
theorem dX3_takeIn_65 : decode cX3_takeIn 65 = .ok (.iload_n 2, 1) := by decide +kernel
theorem dX3_takeIn_66 : decode cX3_takeIn 66 = .ok (.iand, 1) := by decide +kernel
theorem dX3_takeIn_67 : decode cX3_takeIn 67 = .ok (.istore 7, 2) := by decide +kernel
theorem dX3_takeIn_69 : decode cX3_takeIn 69 = .ok (.aload_n 0, 1) := by decide +kernel
theorem dX3_takeIn_70 : decode cX3_takeIn 70 = .ok (.getfield 9, 3) := by decide +kernel
theorem dX3_takeIn_73 : decode cX3_takeIn 73 = .ok (.iload 4, 2) := by decide +kernel
theorem dX3_takeIn_75 : decode cX3_takeIn 75 = .ok (.iaload, 1) := by decide +kernel
theorem dX3_takeIn_76 : decode cX3_takeIn 76 = .ok (.iload 6, 2) := by decide +kernel
theorem dX3_takeIn_78 : decode cX3_takeIn 78 = .ok (.if_icmp .ne 30, 3) := by decide +kernel
theorem dX3_takeIn_81 : decode cX3_takeIn 81 = .ok (.aload_n 0, 1) := by decide +kernel
theorem dX3_takeIn_82 : decode cX3_takeIn 82 = .ok (.getfield 15, 3) := by decide +kernel
theorem dX3_takeIn_85 : decode cX3_takeIn 85 = .ok (.iload 4, 2) := by decide +kernel
theorem dX3_takeIn_87 : decode cX3_takeIn 87 = .ok (.iaload, 1) := by decide +kernel
theorem dX3_takeIn_88 : decode cX3_takeIn 88 = .ok (.iload 7, 2) := by decide +kernel
theorem dX3_takeIn_90 : decode cX3_takeIn 90 = .ok (.if_icmp .ne 18, 3) := by decide +kernel
theorem dX3_takeIn_93 : decode cX3_takeIn 93 = .ok (.aload_n 0, 1) := by decide +kernel
theorem dX3_takeIn_94 : decode cX3_takeIn 94 = .ok (.getfield 18, 3) := by decide +kernel
theorem dX3_takeIn_97 : decode cX3_takeIn 97 = .ok (.iload 4, 2) := by decide +kernel
theorem dX3_takeIn_99 : decode cX3_takeIn 99 = .ok (.iaload, 1) := by decide +kernel
theorem dX3_takeIn_100 : decode cX3_takeIn 100 = .ok (.aload 5, 2) := by decide +kernel
theorem dX3_takeIn_102 : decode cX3_takeIn 102 = .ok (.getfield 71, 3) := by decide +kernel
theorem dX3_takeIn_105 : decode cX3_takeIn 105 = .ok (.if_icmp .eq 5, 3) := by decide +kernel
theorem dX3_takeIn_108 : decode cX3_takeIn 108 = .ok (.iconst 1, 1) := by decide +kernel
theorem dX3_takeIn_109 : decode cX3_takeIn 109 = .ok (.istore_n 3, 1) := by decide +kernel
theorem dX3_takeIn_110 : decode cX3_takeIn 110 = .ok (.aload_n 0, 1) := by decide +kernel
theorem dX3_takeIn_111 : decode cX3_takeIn 111 = .ok (.getfield 9, 3) := by decide +kernel
theorem dX3_takeIn_114 : decode cX3_takeIn 114 = .ok (.iload 4, 2) := by decide +kernel
theorem dX3_takeIn_116 : decode cX3_takeIn 116 = .ok (.iload 6, 2) := by decide +kernel
theorem dX3_takeIn_118 : decode cX3_takeIn 118 = .ok (.iastore, 1) := by decide +kernel
theorem dX3_takeIn_119 : decode cX3_takeIn 119 = .ok (.aload_n 0, 1) := by decide +kernel
theorem dX3_takeIn_120 : decode cX3_takeIn 120 = .ok (.getfield 15, 3) := by decide +kernel
theorem dX3_takeIn_123 : decode cX3_takeIn 123 = .ok (.iload 4, 2) := by decide +kernel
theorem dX3_takeIn_125 : decode cX3_takeIn 125 = .ok (.iload 7, 2) := by decide +kernel
theorem dX3_takeIn_127 : decode cX3_takeIn 127 = .ok (.iastore, 1) := by decide +kernel
theorem dX3_takeIn_128 : decode cX3_takeIn 128 = .ok (.aload_n 0, 1) := by decide +kernel
theorem dX3_takeIn_129 : decode cX3_takeIn 129 = .ok (.getfield 18, 3) := by decide +kernel
theorem dX3_takeIn_132 : decode cX3_takeIn 132 = .ok (.iload 4, 2) := by decide +kernel
theorem dX3_takeIn_134 : decode cX3_takeIn 134 = .ok (.aload 5, 2) := by decide +kernel
theorem dX3_takeIn_136 : decode cX3_takeIn 136 = .ok (.getfield 71, 3) := by decide +kernel
theorem dX3_takeIn_139 : decode cX3_takeIn 139 = .ok (.iastore, 1) := by decide +kernel
theorem dX3_takeIn_140 : decode cX3_takeIn 140 = .ok (.iinc 4 1, 3) := by decide +kernel
theorem dX3_takeIn_143 : decode cX3_takeIn 143 = .ok (.goto (-110), 3) := by decide +kernel
theorem dX3_takeIn_146 : decode cX3_takeIn 146 = .ok (.iload_n 3, 1) := by decide +kernel
theorem dX3_takeIn_147 : decode cX3_takeIn 147 = .ok (.ireturn, 1) := by decide +kernel
theorem dX3_allGraves_0 : decode cX3_allGraves 0 = .ok (.iconst 1, 1) := by decide +kernel
theorem dX3_allGraves_1 : decode cX3_allGraves 1 = .ok (.aload_n 0, 1) := by decide +kernel
theorem dX3_allGraves_2 : decode cX3_allGraves 2 = .ok (.getfield 46, 3) := by decide +kernel
theorem dX3_allGraves_5 : decode cX3_allGraves 5 = .ok (.ishl, 1) := by decide +kernel
theorem dX3_allGraves_6 : decode cX3_allGraves 6 = .ok (.iconst 1, 1) := by decide +kernel
theorem dX3_allGraves_7 : decode cX3_allGraves 7 = .ok (.isub, 1) := by decide +kernel
theorem dX3_allGraves_8 : decode cX3_allGraves 8 = .ok (.ireturn, 1) := by decide +kernel
theorem dX3_joinGoods_0 : decode cX3_joinGoods 0 = .ok (.iconst 0, 1) := by decide +kernel
theorem dX3_joinGoods_1 : decode cX3_joinGoods 1 = .ok (.istore_n 1, 1) := by decide +kernel
theorem dX3_joinGoods_2 : decode cX3_joinGoods 2 = .ok (.iload_n 1, 1) := by decide +kernel
theorem dX3_joinGoods_3 : decode cX3_joinGoods 3 = .ok (.aload_n 0, 1) := by decide +kernel
theorem dX3_joinGoods_4 : decode cX3_joinGoods 4 = .ok (.getfield 46, 3) := by decide +kernel
theorem dX3_joinGoods_7 : decode cX3_joinGoods 7 = .ok (.if_icmp .ge 47, 3) := by decide +kernel
theorem dX3_joinGoods_10 : decode cX3_joinGoods 10 = .ok (.iconst 1, 1) := by decide +kernel
theorem dX3_joinGoods_11 : decode cX3_joinGoods 11 = .ok (.iload_n 1, 1) := by decide +kernel
theorem dX3_joinGoods_12 : decode cX3_joinGoods 12 = .ok (.ishl, 1) := by decide +kernel
theorem dX3_joinGoods_13 : decode cX3_joinGoods 13 = .ok (.istore_n 2, 1) := by decide +kernel
theorem dX3_joinGoods_14 : decode cX3_joinGoods 14 = .ok (.iconst 0, 1) := by decide +kernel
theorem dX3_joinGoods_15 : decode cX3_joinGoods 15 = .ok (.istore_n 3, 1) := by decide +kernel
theorem dX3_joinGoods_16 : decode cX3_joinGoods 16 = .ok (.iload_n 3, 1) := by decide +kernel
theorem dX3_joinGoods_17 : decode cX3_joinGoods 17 = .ok (.iload_n 2, 1) := by decide +kernel
theorem dX3_joinGoods_18 : decode cX3_joinGoods 18 = .ok (.if_icmp .ge 30, 3) := by decide +kernel
theorem dX3_joinGoods_21 : decode cX3_joinGoods 21 = .ok (.aload_n 0, 1) := by decide +kernel
theorem dX3_joinGoods_22 : decode cX3_joinGoods 22 = .ok (.getfield 21, 3) := by decide +kernel
theorem dX3_joinGoods_25 : decode cX3_joinGoods 25 = .ok (.iload_n 2, 1) := by decide +kernel
theorem dX3_joinGoods_26 : decode cX3_joinGoods 26 = .ok (.iload_n 3, 1) := by decide +kernel
theorem dX3_joinGoods_27 : decode cX3_joinGoods 27 = .ok (.iadd, 1) := by decide +kernel
theorem dX3_joinGoods_28 : decode cX3_joinGoods 28 = .ok (.aload_n 0, 1) := by decide +kernel
theorem dX3_joinGoods_29 : decode cX3_joinGoods 29 = .ok (.getfield 21, 3) := by decide +kernel
theorem dX3_joinGoods_32 : decode cX3_joinGoods 32 = .ok (.iload_n 3, 1) := by decide +kernel
theorem dX3_joinGoods_33 : decode cX3_joinGoods 33 = .ok (.iaload, 1) := by decide +kernel
theorem dX3_joinGoods_34 : decode cX3_joinGoods 34 = .ok (.aload_n 0, 1) := by decide +kernel
theorem dX3_joinGoods_35 : decode cX3_joinGoods 35 = .ok (.getfield 9, 3) := by decide +kernel
theorem dX3_joinGoods_38 : decode cX3_joinGoods 38 = .ok (.iload_n 1, 1) := by decide +kernel
theorem dX3_joinGoods_39 : decode cX3_joinGoods 39 = .ok (.iaload, 1) := by decide +kernel
theorem dX3_joinGoods_40 : decode cX3_joinGoods 40 = .ok (.ior, 1) := by decide +kernel
theorem dX3_joinGoods_41 : decode cX3_joinGoods 41 = .ok (.iastore, 1) := by decide +kernel
theorem dX3_joinGoods_42 : decode cX3_joinGoods 42 = .ok (.iinc 3 1, 3) := by decide +kernel
theorem dX3_joinGoods_45 : decode cX3_joinGoods 45 = .ok (.goto (-29), 3) := by decide +kernel
theorem dX3_joinGoods_48 : decode cX3_joinGoods 48 = .ok (.iinc 1 1, 3) := by decide +kernel
theorem dX3_joinGoods_51 : decode cX3_joinGoods 51 = .ok (.goto (-49), 3) := by decide +kernel
theorem dX3_joinGoods_54 : decode cX3_joinGoods 54 = .ok (.return_, 1) := by decide +kernel
set_option maxRecDepth 20000 in
theorem ggX3_weighSets_X3_allGraves : GoodIn wsX3_weighSets wsX3_allGraves := goodIn_r _ [9, 4, 31, 32, 33, 34, 35, 36, 37, 38] (by decide +kernel) (by decide +kernel)
set_option maxRecDepth 20000 in
theorem gX3_weighSets_X3_allGraves : GoodIn wsX3_weighSets (wsV RX3 73 RX3 yX3_allGraves wsX3_allGraves) := goodIn_app (goodIn_of _ (by decide +kernel)) ggX3_weighSets_X3_allGraves
set_option maxRecDepth 20000 in
theorem ggX3_weighSets_X3_mayFollow : GoodIn wsX3_weighSets wsX3_mayFollow := goodIn_r _ [13, 14, 15, 16, 17, 31, 32, 33, 34, 35, 36, 37, 38] (by decide +kernel) (by decide +kernel)
set_option maxRecDepth 20000 in
theorem gX3_weighSets_X3_mayFollow : GoodIn wsX3_weighSets (wsV RX3 77 RX3 yX3_mayFollow wsX3_mayFollow) := goodIn_app (goodIn_of _ (by decide +kernel)) ggX3_weighSets_X3_mayFollow
set_option maxRecDepth 20000 in
theorem ggX3_weighSets_X3_costThrough : GoodIn wsX3_weighSets wsX3_costThrough := goodIn_r _ [21, 22, 23, 1, 5, 6, 7, 8, 9, 4, 24, 25, 26, 27, 28, 29, 30, 31, 32, 33, 34, 35, 36, 37, 38] (by decide +kernel) (by decide +kernel)
set_option maxRecDepth 20000 in
theorem gX3_weighSets_X3_costThrough : GoodIn wsX3_weighSets (wsV RX3 81 RX3 yX3_costThrough wsX3_costThrough) := goodIn_app (goodIn_of _ (by decide +kernel)) ggX3_weighSets_X3_costThrough
theorem dX3_weighSets_0 : decode cX3_weighSets 0 = .ok (.aload_n 0, 1) := by decide +kernel
theorem dX3_weighSets_1 : decode cX3_weighSets 1 = .ok (.invokevirtual 73, 3) := by decide +kernel
theorem dX3_weighSets_4 : decode cX3_weighSets 4 = .ok (.istore_n 1, 1) := by decide +kernel
theorem dX3_weighSets_5 : decode cX3_weighSets 5 = .ok (.aload_n 0, 1) := by decide +kernel
theorem dX3_weighSets_6 : decode cX3_weighSets 6 = .ok (.getfield 24, 3) := by decide +kernel
theorem dX3_weighSets_9 : decode cX3_weighSets 9 = .ok (.iload_n 1, 1) := by decide +kernel
theorem dX3_weighSets_10 : decode cX3_weighSets 10 = .ok (.iconst 0, 1) := by decide +kernel
theorem dX3_weighSets_11 : decode cX3_weighSets 11 = .ok (.iastore, 1) := by decide +kernel
theorem dX3_weighSets_12 : decode cX3_weighSets 12 = .ok (.aload_n 0, 1) := by decide +kernel
theorem dX3_weighSets_13 : decode cX3_weighSets 13 = .ok (.getfield 27, 3) := by decide +kernel
theorem dX3_weighSets_16 : decode cX3_weighSets 16 = .ok (.iload_n 1, 1) := by decide +kernel
theorem dX3_weighSets_17 : decode cX3_weighSets 17 = .ok (.iconst 1, 1) := by decide +kernel
theorem dX3_weighSets_18 : decode cX3_weighSets 18 = .ok (.iastore, 1) := by decide +kernel
theorem dX3_weighSets_19 : decode cX3_weighSets 19 = .ok (.iload_n 1, 1) := by decide +kernel
theorem dX3_weighSets_20 : decode cX3_weighSets 20 = .ok (.iconst 1, 1) := by decide +kernel
theorem dX3_weighSets_21 : decode cX3_weighSets 21 = .ok (.isub, 1) := by decide +kernel
theorem dX3_weighSets_22 : decode cX3_weighSets 22 = .ok (.istore_n 2, 1) := by decide +kernel
theorem dX3_weighSets_23 : decode cX3_weighSets 23 = .ok (.iload_n 2, 1) := by decide +kernel
theorem dX3_weighSets_24 : decode cX3_weighSets 24 = .ok (.ifCond .lt 101, 3) := by decide +kernel
theorem dX3_weighSets_27 : decode cX3_weighSets 27 = .ok (.ldc 76, 2) := by decide +kernel
theorem dX3_weighSets_29 : decode cX3_weighSets 29 = .ok (.istore_n 3, 1) := by decide +kernel
theorem dX3_weighSets_30 : decode cX3_weighSets 30 = .ok (.iconst 0, 1) := by decide +kernel
theorem dX3_weighSets_31 : decode cX3_weighSets 31 = .ok (.istore 4, 2) := by decide +kernel
theorem dX3_weighSets_33 : decode cX3_weighSets 33 = .ok (.iconst 0, 1) := by decide +kernel
theorem dX3_weighSets_34 : decode cX3_weighSets 34 = .ok (.istore 5, 2) := by decide +kernel
theorem dX3_weighSets_36 : decode cX3_weighSets 36 = .ok (.iload 5, 2) := by decide +kernel
theorem dX3_weighSets_38 : decode cX3_weighSets 38 = .ok (.aload_n 0, 1) := by decide +kernel
theorem dX3_weighSets_39 : decode cX3_weighSets 39 = .ok (.getfield 46, 3) := by decide +kernel
theorem dX3_weighSets_42 : decode cX3_weighSets 42 = .ok (.if_icmp .ge 62, 3) := by decide +kernel
theorem dX3_weighSets_45 : decode cX3_weighSets 45 = .ok (.aload_n 0, 1) := by decide +kernel
theorem dX3_weighSets_46 : decode cX3_weighSets 46 = .ok (.iload_n 2, 1) := by decide +kernel
theorem dX3_weighSets_47 : decode cX3_weighSets 47 = .ok (.iload 5, 2) := by decide +kernel
theorem dX3_weighSets_49 : decode cX3_weighSets 49 = .ok (.invokevirtual 77, 3) := by decide +kernel
theorem dX3_weighSets_52 : decode cX3_weighSets 52 = .ok (.ifCond .eq 46, 3) := by decide +kernel
theorem dX3_weighSets_55 : decode cX3_weighSets 55 = .ok (.aload_n 0, 1) := by decide +kernel
theorem dX3_weighSets_56 : decode cX3_weighSets 56 = .ok (.iload_n 2, 1) := by decide +kernel
theorem dX3_weighSets_57 : decode cX3_weighSets 57 = .ok (.iload 5, 2) := by decide +kernel
theorem dX3_weighSets_59 : decode cX3_weighSets 59 = .ok (.invokevirtual 81, 3) := by decide +kernel
theorem dX3_weighSets_62 : decode cX3_weighSets 62 = .ok (.istore 6, 2) := by decide +kernel
theorem dX3_weighSets_64 : decode cX3_weighSets 64 = .ok (.iload 6, 2) := by decide +kernel
theorem dX3_weighSets_66 : decode cX3_weighSets 66 = .ok (.iload_n 3, 1) := by decide +kernel
theorem dX3_weighSets_67 : decode cX3_weighSets 67 = .ok (.if_icmp .ge 9, 3) := by decide +kernel
theorem dX3_weighSets_70 : decode cX3_weighSets 70 = .ok (.iload 6, 2) := by decide +kernel
theorem dX3_weighSets_72 : decode cX3_weighSets 72 = .ok (.istore_n 3, 1) := by decide +kernel
theorem dX3_weighSets_73 : decode cX3_weighSets 73 = .ok (.iconst 0, 1) := by decide +kernel
theorem dX3_weighSets_74 : decode cX3_weighSets 74 = .ok (.istore 4, 2) := by decide +kernel
theorem dX3_weighSets_76 : decode cX3_weighSets 76 = .ok (.iload 6, 2) := by decide +kernel
theorem dX3_weighSets_78 : decode cX3_weighSets 78 = .ok (.iload_n 3, 1) := by decide +kernel
theorem dX3_weighSets_79 : decode cX3_weighSets 79 = .ok (.if_icmp .ne 19, 3) := by decide +kernel
theorem dX3_weighSets_82 : decode cX3_weighSets 82 = .ok (.iload 4, 2) := by decide +kernel
theorem dX3_weighSets_84 : decode cX3_weighSets 84 = .ok (.aload_n 0, 1) := by decide +kernel
theorem dX3_weighSets_85 : decode cX3_weighSets 85 = .ok (.getfield 27, 3) := by decide +kernel
theorem dX3_weighSets_88 : decode cX3_weighSets 88 = .ok (.iload_n 2, 1) := by decide +kernel
theorem dX3_weighSets_89 : decode cX3_weighSets 89 = .ok (.iconst 1, 1) := by decide +kernel
theorem dX3_weighSets_90 : decode cX3_weighSets 90 = .ok (.iload 5, 2) := by decide +kernel
theorem dX3_weighSets_92 : decode cX3_weighSets 92 = .ok (.ishl, 1) := by decide +kernel
theorem dX3_weighSets_93 : decode cX3_weighSets 93 = .ok (.ior, 1) := by decide +kernel
theorem dX3_weighSets_94 : decode cX3_weighSets 94 = .ok (.iaload, 1) := by decide +kernel
theorem dX3_weighSets_95 : decode cX3_weighSets 95 = .ok (.iadd, 1) := by decide +kernel
theorem dX3_weighSets_96 : decode cX3_weighSets 96 = .ok (.istore 4, 2) := by decide +kernel
theorem dX3_weighSets_98 : decode cX3_weighSets 98 = .ok (.iinc 5 1, 3) := by decide +kernel
theorem dX3_weighSets_101 : decode cX3_weighSets 101 = .ok (.goto (-65), 3) := by decide +kernel
theorem dX3_weighSets_104 : decode cX3_weighSets 104 = .ok (.aload_n 0, 1) := by decide +kernel
theorem dX3_weighSets_105 : decode cX3_weighSets 105 = .ok (.getfield 24, 3) := by decide +kernel
theorem dX3_weighSets_108 : decode cX3_weighSets 108 = .ok (.iload_n 2, 1) := by decide +kernel
theorem dX3_weighSets_109 : decode cX3_weighSets 109 = .ok (.iload_n 3, 1) := by decide +kernel
theorem dX3_weighSets_110 : decode cX3_weighSets 110 = .ok (.iastore, 1) := by decide +kernel
theorem dX3_weighSets_111 : decode cX3_weighSets 111 = .ok (.aload_n 0, 1) := by decide +kernel
theorem dX3_weighSets_112 : decode cX3_weighSets 112 = .ok (.getfield 27, 3) := by decide +kernel
theorem dX3_weighSets_115 : decode cX3_weighSets 115 = .ok (.iload_n 2, 1) := by decide +kernel
theorem dX3_weighSets_116 : decode cX3_weighSets 116 = .ok (.iload 4, 2) := by decide +kernel
theorem dX3_weighSets_118 : decode cX3_weighSets 118 = .ok (.iastore, 1) := by decide +kernel
theorem dX3_weighSets_119 : decode cX3_weighSets 119 = .ok (.iinc 2 (-1), 3) := by decide +kernel
theorem dX3_weighSets_122 : decode cX3_weighSets 122 = .ok (.goto (-99), 3) := by decide +kernel
theorem dX3_weighSets_125 : decode cX3_weighSets 125 = .ok (.return_, 1) := by decide +kernel
set_option maxRecDepth 20000 in
theorem ggX3_walkFirstRow_X3_mayFollow : GoodIn wsX3_walkFirstRow wsX3_mayFollow := goodIn_r _ [8, 9, 10, 11, 12, 30, 31, 32, 33, 34, 35, 36, 37] (by decide +kernel) (by decide +kernel)
set_option maxRecDepth 20000 in
theorem gX3_walkFirstRow_X3_mayFollow : GoodIn wsX3_walkFirstRow (wsV RX3 77 RX3 yX3_mayFollow wsX3_mayFollow) := goodIn_app (goodIn_of _ (by decide +kernel)) ggX3_walkFirstRow_X3_mayFollow
set_option maxRecDepth 20000 in
theorem ggX3_walkFirstRow_X3_costThrough : GoodIn wsX3_walkFirstRow wsX3_costThrough := goodIn_r _ [16, 17, 18, 2, 19, 20, 21, 7, 22, 1, 23, 24, 25, 26, 27, 28, 29, 30, 31, 32, 33, 34, 35, 36, 37] (by decide +kernel) (by decide +kernel)
set_option maxRecDepth 20000 in
theorem gX3_walkFirstRow_X3_costThrough : GoodIn wsX3_walkFirstRow (wsV RX3 81 RX3 yX3_costThrough wsX3_costThrough) := goodIn_app (goodIn_of _ (by decide +kernel)) ggX3_walkFirstRow_X3_costThrough
theorem dX3_walkFirstRow_0 : decode cX3_walkFirstRow 0 = .ok (.iconst 0, 1) := by decide +kernel
theorem dX3_walkFirstRow_1 : decode cX3_walkFirstRow 1 = .ok (.istore_n 1, 1) := by decide +kernel
theorem dX3_walkFirstRow_2 : decode cX3_walkFirstRow 2 = .ok (.iconst 0, 1) := by decide +kernel
theorem dX3_walkFirstRow_3 : decode cX3_walkFirstRow 3 = .ok (.istore_n 2, 1) := by decide +kernel
theorem dX3_walkFirstRow_4 : decode cX3_walkFirstRow 4 = .ok (.iload_n 2, 1) := by decide +kernel
theorem dX3_walkFirstRow_5 : decode cX3_walkFirstRow 5 = .ok (.aload_n 0, 1) := by decide +kernel
theorem dX3_walkFirstRow_6 : decode cX3_walkFirstRow 6 = .ok (.getfield 46, 3) := by decide +kernel
theorem dX3_walkFirstRow_9 : decode cX3_walkFirstRow 9 = .ok (.if_icmp .ge 65, 3) := by decide +kernel
theorem dX3_walkFirstRow_12 : decode cX3_walkFirstRow 12 = .ok (.iconst 0, 1) := by decide +kernel
theorem dX3_walkFirstRow_13 : decode cX3_walkFirstRow 13 = .ok (.istore_n 3, 1) := by decide +kernel
theorem dX3_walkFirstRow_14 : decode cX3_walkFirstRow 14 = .ok (.iload_n 3, 1) := by decide +kernel
theorem dX3_walkFirstRow_15 : decode cX3_walkFirstRow 15 = .ok (.aload_n 0, 1) := by decide +kernel
theorem dX3_walkFirstRow_16 : decode cX3_walkFirstRow 16 = .ok (.getfield 46, 3) := by decide +kernel
theorem dX3_walkFirstRow_19 : decode cX3_walkFirstRow 19 = .ok (.if_icmp .ge 49, 3) := by decide +kernel
theorem dX3_walkFirstRow_22 : decode cX3_walkFirstRow 22 = .ok (.aload_n 0, 1) := by decide +kernel
theorem dX3_walkFirstRow_23 : decode cX3_walkFirstRow 23 = .ok (.iload_n 1, 1) := by decide +kernel
theorem dX3_walkFirstRow_24 : decode cX3_walkFirstRow 24 = .ok (.iload_n 3, 1) := by decide +kernel
theorem dX3_walkFirstRow_25 : decode cX3_walkFirstRow 25 = .ok (.invokevirtual 77, 3) := by decide +kernel
theorem dX3_walkFirstRow_28 : decode cX3_walkFirstRow 28 = .ok (.ifCond .eq 34, 3) := by decide +kernel
theorem dX3_walkFirstRow_31 : decode cX3_walkFirstRow 31 = .ok (.aload_n 0, 1) := by decide +kernel
theorem dX3_walkFirstRow_32 : decode cX3_walkFirstRow 32 = .ok (.iload_n 1, 1) := by decide +kernel
theorem dX3_walkFirstRow_33 : decode cX3_walkFirstRow 33 = .ok (.iload_n 3, 1) := by decide +kernel
theorem dX3_walkFirstRow_34 : decode cX3_walkFirstRow 34 = .ok (.invokevirtual 81, 3) := by decide +kernel
theorem dX3_walkFirstRow_37 : decode cX3_walkFirstRow 37 = .ok (.aload_n 0, 1) := by decide +kernel
theorem dX3_walkFirstRow_38 : decode cX3_walkFirstRow 38 = .ok (.getfield 24, 3) := by decide +kernel
theorem dX3_walkFirstRow_41 : decode cX3_walkFirstRow 41 = .ok (.iload_n 1, 1) := by decide +kernel
theorem dX3_walkFirstRow_42 : decode cX3_walkFirstRow 42 = .ok (.iaload, 1) := by decide +kernel
theorem dX3_walkFirstRow_43 : decode cX3_walkFirstRow 43 = .ok (.if_icmp .ne 19, 3) := by decide +kernel
theorem dX3_walkFirstRow_46 : decode cX3_walkFirstRow 46 = .ok (.aload_n 0, 1) := by decide +kernel
theorem dX3_walkFirstRow_47 : decode cX3_walkFirstRow 47 = .ok (.getfield 30, 3) := by decide +kernel
theorem dX3_walkFirstRow_50 : decode cX3_walkFirstRow 50 = .ok (.iload_n 2, 1) := by decide +kernel
theorem dX3_walkFirstRow_51 : decode cX3_walkFirstRow 51 = .ok (.iload_n 3, 1) := by decide +kernel
theorem dX3_walkFirstRow_52 : decode cX3_walkFirstRow 52 = .ok (.iastore, 1) := by decide +kernel
theorem dX3_walkFirstRow_53 : decode cX3_walkFirstRow 53 = .ok (.iload_n 1, 1) := by decide +kernel
theorem dX3_walkFirstRow_54 : decode cX3_walkFirstRow 54 = .ok (.iconst 1, 1) := by decide +kernel
theorem dX3_walkFirstRow_55 : decode cX3_walkFirstRow 55 = .ok (.iload_n 3, 1) := by decide +kernel
theorem dX3_walkFirstRow_56 : decode cX3_walkFirstRow 56 = .ok (.ishl, 1) := by decide +kernel
theorem dX3_walkFirstRow_57 : decode cX3_walkFirstRow 57 = .ok (.ior, 1) := by decide +kernel
theorem dX3_walkFirstRow_58 : decode cX3_walkFirstRow 58 = .ok (.istore_n 1, 1) := by decide +kernel
theorem dX3_walkFirstRow_59 : decode cX3_walkFirstRow 59 = .ok (.goto 9, 3) := by decide +kernel
theorem dX3_walkFirstRow_62 : decode cX3_walkFirstRow 62 = .ok (.iinc 3 1, 3) := by decide +kernel
theorem dX3_walkFirstRow_65 : decode cX3_walkFirstRow 65 = .ok (.goto (-51), 3) := by decide +kernel
theorem dX3_walkFirstRow_68 : decode cX3_walkFirstRow 68 = .ok (.iinc 2 1, 3) := by decide +kernel
theorem dX3_walkFirstRow_71 : decode cX3_walkFirstRow 71 = .ok (.goto (-67), 3) := by decide +kernel
theorem dX3_walkFirstRow_74 : decode cX3_walkFirstRow 74 = .ok (.return_, 1) := by decide +kernel
set_option maxRecDepth 20000 in
theorem ggX3_mayFollow_X5_isIn : GoodIn wsX3_mayFollow wsX5_isIn := goodIn_r _ [4] (by decide +kernel) (by decide +kernel)
set_option maxRecDepth 20000 in
theorem gX3_mayFollow_X5_isIn_n84 : GoodIn wsX3_mayFollow (wsX5_isIn) := ggX3_mayFollow_X5_isIn
theorem dX3_mayFollow_0 : decode cX3_mayFollow 0 = .ok (.iload_n 1, 1) := by decide +kernel
theorem dX3_mayFollow_1 : decode cX3_mayFollow 1 = .ok (.iload_n 2, 1) := by decide +kernel
theorem dX3_mayFollow_2 : decode cX3_mayFollow 2 = .ok (.invokestatic 84, 3) := by decide +kernel
theorem dX3_mayFollow_5 : decode cX3_mayFollow 5 = .ok (.ifCond .ne 20, 3) := by decide +kernel
theorem dX3_mayFollow_8 : decode cX3_mayFollow 8 = .ok (.aload_n 0, 1) := by decide +kernel
theorem dX3_mayFollow_9 : decode cX3_mayFollow 9 = .ok (.getfield 18, 3) := by decide +kernel
theorem dX3_mayFollow_12 : decode cX3_mayFollow 12 = .ok (.iload_n 2, 1) := by decide +kernel
theorem dX3_mayFollow_13 : decode cX3_mayFollow 13 = .ok (.iaload, 1) := by decide +kernel
theorem dX3_mayFollow_14 : decode cX3_mayFollow 14 = .ok (.iload_n 1, 1) := by decide +kernel
theorem dX3_mayFollow_15 : decode cX3_mayFollow 15 = .ok (.iconst (-1), 1) := by decide +kernel
theorem dX3_mayFollow_16 : decode cX3_mayFollow 16 = .ok (.ixor, 1) := by decide +kernel
theorem dX3_mayFollow_17 : decode cX3_mayFollow 17 = .ok (.iand, 1) := by decide +kernel
theorem dX3_mayFollow_18 : decode cX3_mayFollow 18 = .ok (.ifCond .ne 7, 3) := by decide +kernel
theorem dX3_mayFollow_21 : decode cX3_mayFollow 21 = .ok (.iconst 1, 1) := by decide +kernel
theorem dX3_mayFollow_22 : decode cX3_mayFollow 22 = .ok (.goto 4, 3) := by decide +kernel
theorem dX3_mayFollow_25 : decode cX3_mayFollow 25 = .ok (.iconst 0, 1) := by decide +kernel
theorem dX3_mayFollow_26 : decode cX3_mayFollow 26 = .ok (.ireturn, 1) := by decide +kernel
set_option maxRecDepth 20000 in
theorem ggX3_costThrough_X3_allGraves : GoodIn wsX3_costThrough wsX3_allGraves := goodIn_r _ [8, 9, 17, 18, 19, 20, 21, 22, 23, 24] (by decide +kernel) (by decide +kernel)
set_option maxRecDepth 20000 in
theorem gX3_costThrough_X3_allGraves : GoodIn wsX3_costThrough (wsV RX3 73 RX3 yX3_allGraves wsX3_allGraves) := goodIn_app (goodIn_of _ (by decide +kernel)) ggX3_costThrough_X3_allGraves
set_option maxRecDepth 20000 in
theorem ggX3_costThrough_J6_bitCount_0f7a4 : GoodIn wsX3_costThrough wsJ6_bitCount_0f7a4 := goodIn_r _ [13, 14, 15, 16] (by decide +kernel) (by decide +kernel)
set_option maxRecDepth 20000 in
theorem gX3_costThrough_J6_bitCount_0f7a4 : GoodIn wsX3_costThrough (va_wsS RX3 87 yJ6_bitCount_0f7a4 wsJ6_bitCount_0f7a4) := goodIn_app (goodIn_of _ (by decide +kernel)) ggX3_costThrough_J6_bitCount_0f7a4
theorem dX3_costThrough_0 : decode cX3_costThrough 0 = .ok (.iload_n 1, 1) := by decide +kernel
theorem dX3_costThrough_1 : decode cX3_costThrough 1 = .ok (.iconst 1, 1) := by decide +kernel
theorem dX3_costThrough_2 : decode cX3_costThrough 2 = .ok (.iload_n 2, 1) := by decide +kernel
theorem dX3_costThrough_3 : decode cX3_costThrough 3 = .ok (.ishl, 1) := by decide +kernel
theorem dX3_costThrough_4 : decode cX3_costThrough 4 = .ok (.ior, 1) := by decide +kernel
theorem dX3_costThrough_5 : decode cX3_costThrough 5 = .ok (.istore_n 3, 1) := by decide +kernel
theorem dX3_costThrough_6 : decode cX3_costThrough 6 = .ok (.aload_n 0, 1) := by decide +kernel
theorem dX3_costThrough_7 : decode cX3_costThrough 7 = .ok (.getfield 21, 3) := by decide +kernel
theorem dX3_costThrough_10 : decode cX3_costThrough 10 = .ok (.iload_n 1, 1) := by decide +kernel
theorem dX3_costThrough_11 : decode cX3_costThrough 11 = .ok (.iaload, 1) := by decide +kernel
theorem dX3_costThrough_12 : decode cX3_costThrough 12 = .ok (.aload_n 0, 1) := by decide +kernel
theorem dX3_costThrough_13 : decode cX3_costThrough 13 = .ok (.getfield 21, 3) := by decide +kernel
theorem dX3_costThrough_16 : decode cX3_costThrough 16 = .ok (.aload_n 0, 1) := by decide +kernel
theorem dX3_costThrough_17 : decode cX3_costThrough 17 = .ok (.invokevirtual 73, 3) := by decide +kernel
theorem dX3_costThrough_20 : decode cX3_costThrough 20 = .ok (.iload_n 3, 1) := by decide +kernel
theorem dX3_costThrough_21 : decode cX3_costThrough 21 = .ok (.iconst (-1), 1) := by decide +kernel
theorem dX3_costThrough_22 : decode cX3_costThrough 22 = .ok (.ixor, 1) := by decide +kernel
theorem dX3_costThrough_23 : decode cX3_costThrough 23 = .ok (.iand, 1) := by decide +kernel
theorem dX3_costThrough_24 : decode cX3_costThrough 24 = .ok (.iaload, 1) := by decide +kernel
theorem dX3_costThrough_25 : decode cX3_costThrough 25 = .ok (.iand, 1) := by decide +kernel
theorem dX3_costThrough_26 : decode cX3_costThrough 26 = .ok (.istore 4, 2) := by decide +kernel
theorem dX3_costThrough_28 : decode cX3_costThrough 28 = .ok (.iload 4, 2) := by decide +kernel
theorem dX3_costThrough_30 : decode cX3_costThrough 30 = .ok (.aload_n 0, 1) := by decide +kernel
theorem dX3_costThrough_31 : decode cX3_costThrough 31 = .ok (.getfield 15, 3) := by decide +kernel
theorem dX3_costThrough_34 : decode cX3_costThrough 34 = .ok (.iload_n 2, 1) := by decide +kernel
theorem dX3_costThrough_35 : decode cX3_costThrough 35 = .ok (.iaload, 1) := by decide +kernel
theorem dX3_costThrough_36 : decode cX3_costThrough 36 = .ok (.iand, 1) := by decide +kernel
theorem dX3_costThrough_37 : decode cX3_costThrough 37 = .ok (.invokestatic 87, 3) := by decide +kernel
theorem dX3_costThrough_40 : decode cX3_costThrough 40 = .ok (.aload_n 0, 1) := by decide +kernel
theorem dX3_costThrough_41 : decode cX3_costThrough 41 = .ok (.getfield 24, 3) := by decide +kernel
theorem dX3_costThrough_44 : decode cX3_costThrough 44 = .ok (.iload_n 3, 1) := by decide +kernel
theorem dX3_costThrough_45 : decode cX3_costThrough 45 = .ok (.iaload, 1) := by decide +kernel
theorem dX3_costThrough_46 : decode cX3_costThrough 46 = .ok (.iadd, 1) := by decide +kernel
theorem dX3_costThrough_47 : decode cX3_costThrough 47 = .ok (.ireturn, 1) := by decide +kernel
theorem dX3_leastCost_0 : decode cX3_leastCost 0 = .ok (.aload_n 0, 1) := by decide +kernel
theorem dX3_leastCost_1 : decode cX3_leastCost 1 = .ok (.getfield 24, 3) := by decide +kernel
theorem dX3_leastCost_4 : decode cX3_leastCost 4 = .ok (.iconst 0, 1) := by decide +kernel
theorem dX3_leastCost_5 : decode cX3_leastCost 5 = .ok (.iaload, 1) := by decide +kernel
theorem dX3_leastCost_6 : decode cX3_leastCost 6 = .ok (.ireturn, 1) := by decide +kernel
theorem dX3_leastWays_0 : decode cX3_leastWays 0 = .ok (.aload_n 0, 1) := by decide +kernel
theorem dX3_leastWays_1 : decode cX3_leastWays 1 = .ok (.getfield 27, 3) := by decide +kernel
theorem dX3_leastWays_4 : decode cX3_leastWays 4 = .ok (.iconst 0, 1) := by decide +kernel
theorem dX3_leastWays_5 : decode cX3_leastWays 5 = .ok (.iaload, 1) := by decide +kernel
theorem dX3_leastWays_6 : decode cX3_leastWays 6 = .ok (.ireturn, 1) := by decide +kernel
set_option maxRecDepth 20000 in
theorem ggX3_firstPlaceOf_X5_isIn : GoodIn wsX3_firstPlaceOf wsX5_isIn := goodIn_r _ [6] (by decide +kernel) (by decide +kernel)
set_option maxRecDepth 20000 in
theorem gX3_firstPlaceOf_X5_isIn_n84 : GoodIn wsX3_firstPlaceOf (wsX5_isIn) := ggX3_firstPlaceOf_X5_isIn
theorem dX3_firstPlaceOf_0 : decode cX3_firstPlaceOf 0 = .ok (.iconst 0, 1) := by decide +kernel
theorem dX3_firstPlaceOf_1 : decode cX3_firstPlaceOf 1 = .ok (.istore_n 2, 1) := by decide +kernel
theorem dX3_firstPlaceOf_2 : decode cX3_firstPlaceOf 2 = .ok (.iload_n 2, 1) := by decide +kernel
theorem dX3_firstPlaceOf_3 : decode cX3_firstPlaceOf 3 = .ok (.aload_n 0, 1) := by decide +kernel
theorem dX3_firstPlaceOf_4 : decode cX3_firstPlaceOf 4 = .ok (.getfield 46, 3) := by decide +kernel
theorem dX3_firstPlaceOf_7 : decode cX3_firstPlaceOf 7 = .ok (.if_icmp .ge 29, 3) := by decide +kernel
theorem dX3_firstPlaceOf_10 : decode cX3_firstPlaceOf 10 = .ok (.aload_n 0, 1) := by decide +kernel
theorem dX3_firstPlaceOf_11 : decode cX3_firstPlaceOf 11 = .ok (.getfield 9, 3) := by decide +kernel
theorem dX3_firstPlaceOf_14 : decode cX3_firstPlaceOf 14 = .ok (.aload_n 0, 1) := by decide +kernel
theorem dX3_firstPlaceOf_15 : decode cX3_firstPlaceOf 15 = .ok (.getfield 30, 3) := by decide +kernel
theorem dX3_firstPlaceOf_18 : decode cX3_firstPlaceOf 18 = .ok (.iload_n 2, 1) := by decide +kernel
theorem dX3_firstPlaceOf_19 : decode cX3_firstPlaceOf 19 = .ok (.iaload, 1) := by decide +kernel
theorem dX3_firstPlaceOf_20 : decode cX3_firstPlaceOf 20 = .ok (.iaload, 1) := by decide +kernel
theorem dX3_firstPlaceOf_21 : decode cX3_firstPlaceOf 21 = .ok (.iload_n 1, 1) := by decide +kernel
theorem dX3_firstPlaceOf_22 : decode cX3_firstPlaceOf 22 = .ok (.invokestatic 84, 3) := by decide +kernel
theorem dX3_firstPlaceOf_25 : decode cX3_firstPlaceOf 25 = .ok (.ifCond .eq 5, 3) := by decide +kernel
theorem dX3_firstPlaceOf_28 : decode cX3_firstPlaceOf 28 = .ok (.iload_n 2, 1) := by decide +kernel
theorem dX3_firstPlaceOf_29 : decode cX3_firstPlaceOf 29 = .ok (.ireturn, 1) := by decide +kernel
theorem dX3_firstPlaceOf_30 : decode cX3_firstPlaceOf 30 = .ok (.iinc 2 1, 3) := by decide +kernel
theorem dX3_firstPlaceOf_33 : decode cX3_firstPlaceOf 33 = .ok (.goto (-31), 3) := by decide +kernel
theorem dX3_firstPlaceOf_36 : decode cX3_firstPlaceOf 36 = .ok (.iconst (-1), 1) := by decide +kernel
theorem dX3_firstPlaceOf_37 : decode cX3_firstPlaceOf 37 = .ok (.ireturn, 1) := by decide +kernel
set_option maxRecDepth 20000 in
theorem ggX3_lastPlaceOf_X5_isIn : GoodIn wsX3_lastPlaceOf wsX5_isIn := goodIn_r _ [6] (by decide +kernel) (by decide +kernel)
set_option maxRecDepth 20000 in
theorem gX3_lastPlaceOf_X5_isIn_n84 : GoodIn wsX3_lastPlaceOf (wsX5_isIn) := ggX3_lastPlaceOf_X5_isIn
theorem dX3_lastPlaceOf_0 : decode cX3_lastPlaceOf 0 = .ok (.aload_n 0, 1) := by decide +kernel
theorem dX3_lastPlaceOf_1 : decode cX3_lastPlaceOf 1 = .ok (.getfield 46, 3) := by decide +kernel
theorem dX3_lastPlaceOf_4 : decode cX3_lastPlaceOf 4 = .ok (.iconst 1, 1) := by decide +kernel
theorem dX3_lastPlaceOf_5 : decode cX3_lastPlaceOf 5 = .ok (.isub, 1) := by decide +kernel
theorem dX3_lastPlaceOf_6 : decode cX3_lastPlaceOf 6 = .ok (.istore_n 2, 1) := by decide +kernel
theorem dX3_lastPlaceOf_7 : decode cX3_lastPlaceOf 7 = .ok (.iload_n 2, 1) := by decide +kernel
theorem dX3_lastPlaceOf_8 : decode cX3_lastPlaceOf 8 = .ok (.ifCond .lt 29, 3) := by decide +kernel
theorem dX3_lastPlaceOf_11 : decode cX3_lastPlaceOf 11 = .ok (.aload_n 0, 1) := by decide +kernel
theorem dX3_lastPlaceOf_12 : decode cX3_lastPlaceOf 12 = .ok (.getfield 9, 3) := by decide +kernel
theorem dX3_lastPlaceOf_15 : decode cX3_lastPlaceOf 15 = .ok (.aload_n 0, 1) := by decide +kernel
theorem dX3_lastPlaceOf_16 : decode cX3_lastPlaceOf 16 = .ok (.getfield 30, 3) := by decide +kernel
theorem dX3_lastPlaceOf_19 : decode cX3_lastPlaceOf 19 = .ok (.iload_n 2, 1) := by decide +kernel
theorem dX3_lastPlaceOf_20 : decode cX3_lastPlaceOf 20 = .ok (.iaload, 1) := by decide +kernel
theorem dX3_lastPlaceOf_21 : decode cX3_lastPlaceOf 21 = .ok (.iaload, 1) := by decide +kernel
theorem dX3_lastPlaceOf_22 : decode cX3_lastPlaceOf 22 = .ok (.iload_n 1, 1) := by decide +kernel
theorem dX3_lastPlaceOf_23 : decode cX3_lastPlaceOf 23 = .ok (.invokestatic 84, 3) := by decide +kernel
theorem dX3_lastPlaceOf_26 : decode cX3_lastPlaceOf 26 = .ok (.ifCond .eq 5, 3) := by decide +kernel
theorem dX3_lastPlaceOf_29 : decode cX3_lastPlaceOf 29 = .ok (.iload_n 2, 1) := by decide +kernel
theorem dX3_lastPlaceOf_30 : decode cX3_lastPlaceOf 30 = .ok (.ireturn, 1) := by decide +kernel
theorem dX3_lastPlaceOf_31 : decode cX3_lastPlaceOf 31 = .ok (.iinc 2 (-1), 3) := by decide +kernel
theorem dX3_lastPlaceOf_34 : decode cX3_lastPlaceOf 34 = .ok (.goto (-27), 3) := by decide +kernel
theorem dX3_lastPlaceOf_37 : decode cX3_lastPlaceOf 37 = .ok (.iconst (-1), 1) := by decide +kernel
theorem dX3_lastPlaceOf_38 : decode cX3_lastPlaceOf 38 = .ok (.ireturn, 1) := by decide +kernel
set_option maxRecDepth 20000 in
theorem ggX3_holesOf_X3_lastPlaceOf : GoodIn wsX3_holesOf wsX3_lastPlaceOf := goodIn_r _ [7, 8, 9, 2, 10, 11, 12, 17, 18, 19, 20, 21, 22, 23, 24] (by decide +kernel) (by decide +kernel)
set_option maxRecDepth 20000 in
theorem gX3_holesOf_X3_lastPlaceOf : GoodIn wsX3_holesOf (wsV RX3 93 RX3 yX3_lastPlaceOf wsX3_lastPlaceOf) := goodIn_app (goodIn_of _ (by decide +kernel)) ggX3_holesOf_X3_lastPlaceOf
set_option maxRecDepth 20000 in
theorem ggX3_holesOf_X3_firstPlaceOf : GoodIn wsX3_holesOf wsX3_firstPlaceOf := goodIn_r _ [16, 8, 9, 2, 10, 11, 12, 17, 18, 19, 20, 21, 22, 23, 24] (by decide +kernel) (by decide +kernel)
set_option maxRecDepth 20000 in
theorem gX3_holesOf_X3_firstPlaceOf : GoodIn wsX3_holesOf (wsV RX3 96 RX3 yX3_firstPlaceOf wsX3_firstPlaceOf) := goodIn_app (goodIn_of _ (by decide +kernel)) ggX3_holesOf_X3_firstPlaceOf
set_option maxRecDepth 20000 in
theorem ggX3_holesOf_X5_isIn : GoodIn wsX3_holesOf wsX5_isIn := goodIn_r _ [12] (by decide +kernel) (by decide +kernel)
set_option maxRecDepth 20000 in
theorem gX3_holesOf_X5_isIn_n84 : GoodIn wsX3_holesOf (wsX5_isIn) := ggX3_holesOf_X5_isIn
theorem dX3_holesOf_0 : decode cX3_holesOf 0 = .ok (.aload_n 0, 1) := by decide +kernel
theorem dX3_holesOf_1 : decode cX3_holesOf 1 = .ok (.iload_n 1, 1) := by decide +kernel
theorem dX3_holesOf_2 : decode cX3_holesOf 2 = .ok (.invokevirtual 93, 3) := by decide +kernel
theorem dX3_holesOf_5 : decode cX3_holesOf 5 = .ok (.istore_n 2, 1) := by decide +kernel
theorem dX3_holesOf_6 : decode cX3_holesOf 6 = .ok (.iconst 0, 1) := by decide +kernel
theorem dX3_holesOf_7 : decode cX3_holesOf 7 = .ok (.istore_n 3, 1) := by decide +kernel
theorem dX3_holesOf_8 : decode cX3_holesOf 8 = .ok (.aload_n 0, 1) := by decide +kernel
theorem dX3_holesOf_9 : decode cX3_holesOf 9 = .ok (.iload_n 1, 1) := by decide +kernel
theorem dX3_holesOf_10 : decode cX3_holesOf 10 = .ok (.invokevirtual 96, 3) := by decide +kernel
theorem dX3_holesOf_13 : decode cX3_holesOf 13 = .ok (.iconst 1, 1) := by decide +kernel
theorem dX3_holesOf_14 : decode cX3_holesOf 14 = .ok (.iadd, 1) := by decide +kernel
theorem dX3_holesOf_15 : decode cX3_holesOf 15 = .ok (.istore 4, 2) := by decide +kernel
theorem dX3_holesOf_17 : decode cX3_holesOf 17 = .ok (.iload 4, 2) := by decide +kernel
theorem dX3_holesOf_19 : decode cX3_holesOf 19 = .ok (.iload_n 2, 1) := by decide +kernel
theorem dX3_holesOf_20 : decode cX3_holesOf 20 = .ok (.if_icmp .ge 31, 3) := by decide +kernel
theorem dX3_holesOf_23 : decode cX3_holesOf 23 = .ok (.aload_n 0, 1) := by decide +kernel
theorem dX3_holesOf_24 : decode cX3_holesOf 24 = .ok (.getfield 15, 3) := by decide +kernel
theorem dX3_holesOf_27 : decode cX3_holesOf 27 = .ok (.aload_n 0, 1) := by decide +kernel
theorem dX3_holesOf_28 : decode cX3_holesOf 28 = .ok (.getfield 30, 3) := by decide +kernel
theorem dX3_holesOf_31 : decode cX3_holesOf 31 = .ok (.iload 4, 2) := by decide +kernel
theorem dX3_holesOf_33 : decode cX3_holesOf 33 = .ok (.iaload, 1) := by decide +kernel
theorem dX3_holesOf_34 : decode cX3_holesOf 34 = .ok (.iaload, 1) := by decide +kernel
theorem dX3_holesOf_35 : decode cX3_holesOf 35 = .ok (.iload_n 1, 1) := by decide +kernel
theorem dX3_holesOf_36 : decode cX3_holesOf 36 = .ok (.invokestatic 84, 3) := by decide +kernel
theorem dX3_holesOf_39 : decode cX3_holesOf 39 = .ok (.ifCond .eq 6, 3) := by decide +kernel
theorem dX3_holesOf_42 : decode cX3_holesOf 42 = .ok (.iinc 3 1, 3) := by decide +kernel
theorem dX3_holesOf_45 : decode cX3_holesOf 45 = .ok (.iinc 4 1, 3) := by decide +kernel
theorem dX3_holesOf_48 : decode cX3_holesOf 48 = .ok (.goto (-31), 3) := by decide +kernel
theorem dX3_holesOf_51 : decode cX3_holesOf 51 = .ok (.iload_n 3, 1) := by decide +kernel
theorem dX3_holesOf_52 : decode cX3_holesOf 52 = .ok (.ireturn, 1) := by decide +kernel
set_option maxRecDepth 20000 in
theorem ggX3_goingOnAt_X3_allGraves : GoodIn wsX3_goingOnAt wsX3_allGraves := goodIn_r _ [7, 8, 16, 17, 18, 19, 20, 21, 22, 23] (by decide +kernel) (by decide +kernel)
set_option maxRecDepth 20000 in
theorem gX3_goingOnAt_X3_allGraves : GoodIn wsX3_goingOnAt (wsV RX3 73 RX3 yX3_allGraves wsX3_allGraves) := goodIn_app (goodIn_of _ (by decide +kernel)) ggX3_goingOnAt_X3_allGraves
set_option maxRecDepth 20000 in
theorem ggX3_goingOnAt_J6_bitCount_0f7a4 : GoodIn wsX3_goingOnAt wsJ6_bitCount_0f7a4 := goodIn_r _ [12, 13, 14, 15] (by decide +kernel) (by decide +kernel)
set_option maxRecDepth 20000 in
theorem gX3_goingOnAt_J6_bitCount_0f7a4 : GoodIn wsX3_goingOnAt (va_wsS RX3 87 yJ6_bitCount_0f7a4 wsJ6_bitCount_0f7a4) := goodIn_app (goodIn_of _ (by decide +kernel)) ggX3_goingOnAt_J6_bitCount_0f7a4
theorem dX3_goingOnAt_0 : decode cX3_goingOnAt 0 = .ok (.iconst 0, 1) := by decide +kernel
theorem dX3_goingOnAt_1 : decode cX3_goingOnAt 1 = .ok (.istore_n 2, 1) := by decide +kernel
theorem dX3_goingOnAt_2 : decode cX3_goingOnAt 2 = .ok (.iconst 0, 1) := by decide +kernel
theorem dX3_goingOnAt_3 : decode cX3_goingOnAt 3 = .ok (.istore_n 3, 1) := by decide +kernel
theorem dX3_goingOnAt_4 : decode cX3_goingOnAt 4 = .ok (.iload_n 3, 1) := by decide +kernel
theorem dX3_goingOnAt_5 : decode cX3_goingOnAt 5 = .ok (.iload_n 1, 1) := by decide +kernel
theorem dX3_goingOnAt_6 : decode cX3_goingOnAt 6 = .ok (.if_icmp .ge 20, 3) := by decide +kernel
theorem dX3_goingOnAt_9 : decode cX3_goingOnAt 9 = .ok (.iload_n 2, 1) := by decide +kernel
theorem dX3_goingOnAt_10 : decode cX3_goingOnAt 10 = .ok (.iconst 1, 1) := by decide +kernel
end
section
theorem dX3_goingOnAt_11 : decode cX3_goingOnAt 11 = .ok (.aload_n 0, 1) := by decide +kernel
theorem dX3_goingOnAt_12 : decode cX3_goingOnAt 12 = .ok (.getfield 30, 3) := by decide +kernel
theorem dX3_goingOnAt_15 : decode cX3_goingOnAt 15 = .ok (.iload_n 3, 1) := by decide +kernel
theorem dX3_goingOnAt_16 : decode cX3_goingOnAt 16 = .ok (.iaload, 1) := by decide +kernel
theorem dX3_goingOnAt_17 : decode cX3_goingOnAt 17 = .ok (.ishl, 1) := by decide +kernel
theorem dX3_goingOnAt_18 : decode cX3_goingOnAt 18 = .ok (.ior, 1) := by decide +kernel
theorem dX3_goingOnAt_19 : decode cX3_goingOnAt 19 = .ok (.istore_n 2, 1) := by decide +kernel
theorem dX3_goingOnAt_20 : decode cX3_goingOnAt 20 = .ok (.iinc 3 1, 3) := by decide +kernel
theorem dX3_goingOnAt_23 : decode cX3_goingOnAt 23 = .ok (.goto (-19), 3) := by decide +kernel
theorem dX3_goingOnAt_26 : decode cX3_goingOnAt 26 = .ok (.aload_n 0, 1) := by decide +kernel
theorem dX3_goingOnAt_27 : decode cX3_goingOnAt 27 = .ok (.getfield 21, 3) := by decide +kernel
theorem dX3_goingOnAt_30 : decode cX3_goingOnAt 30 = .ok (.iload_n 2, 1) := by decide +kernel
theorem dX3_goingOnAt_31 : decode cX3_goingOnAt 31 = .ok (.iaload, 1) := by decide +kernel
theorem dX3_goingOnAt_32 : decode cX3_goingOnAt 32 = .ok (.aload_n 0, 1) := by decide +kernel
theorem dX3_goingOnAt_33 : decode cX3_goingOnAt 33 = .ok (.getfield 21, 3) := by decide +kernel
theorem dX3_goingOnAt_36 : decode cX3_goingOnAt 36 = .ok (.aload_n 0, 1) := by decide +kernel
theorem dX3_goingOnAt_37 : decode cX3_goingOnAt 37 = .ok (.invokevirtual 73, 3) := by decide +kernel
theorem dX3_goingOnAt_40 : decode cX3_goingOnAt 40 = .ok (.iload_n 2, 1) := by decide +kernel
theorem dX3_goingOnAt_41 : decode cX3_goingOnAt 41 = .ok (.iconst (-1), 1) := by decide +kernel
theorem dX3_goingOnAt_42 : decode cX3_goingOnAt 42 = .ok (.ixor, 1) := by decide +kernel
theorem dX3_goingOnAt_43 : decode cX3_goingOnAt 43 = .ok (.iand, 1) := by decide +kernel
theorem dX3_goingOnAt_44 : decode cX3_goingOnAt 44 = .ok (.iaload, 1) := by decide +kernel
theorem dX3_goingOnAt_45 : decode cX3_goingOnAt 45 = .ok (.iand, 1) := by decide +kernel
theorem dX3_goingOnAt_46 : decode cX3_goingOnAt 46 = .ok (.invokestatic 87, 3) := by decide +kernel
theorem dX3_goingOnAt_49 : decode cX3_goingOnAt 49 = .ok (.ireturn, 1) := by decide +kernel
theorem dX4_init_0 : decode cX4_init 0 = .ok (.aload_n 0, 1) := by decide +kernel
theorem dX4_init_1 : decode cX4_init 1 = .ok (.invokespecial 3, 3) := by decide +kernel
theorem dX4_init_4 : decode cX4_init 4 = .ok (.aload_n 0, 1) := by decide +kernel
theorem dX4_init_5 : decode cX4_init 5 = .ok (.bipush 12, 2) := by decide +kernel
theorem dX4_init_7 : decode cX4_init 7 = .ok (.newarray .int, 2) := by decide +kernel
theorem dX4_init_9 : decode cX4_init 9 = .ok (.putfield 9, 3) := by decide +kernel
theorem dX4_init_12 : decode cX4_init 12 = .ok (.return_, 1) := by decide +kernel
theorem dX4_isMissing_0 : decode cX4_isMissing 0 = .ok (.aload_n 0, 1) := by decide +kernel
theorem dX4_isMissing_1 : decode cX4_isMissing 1 = .ok (.getfield 15, 3) := by decide +kernel
theorem dX4_isMissing_4 : decode cX4_isMissing 4 = .ok (.ifCond .ne 7, 3) := by decide +kernel
theorem dX4_isMissing_7 : decode cX4_isMissing 7 = .ok (.iconst 1, 1) := by decide +kernel
theorem dX4_isMissing_8 : decode cX4_isMissing 8 = .ok (.goto 4, 3) := by decide +kernel
theorem dX4_isMissing_11 : decode cX4_isMissing 11 = .ok (.iconst 0, 1) := by decide +kernel
theorem dX4_isMissing_12 : decode cX4_isMissing 12 = .ok (.ireturn, 1) := by decide +kernel
theorem dX4_become_0 : decode cX4_become 0 = .ok (.aload_n 0, 1) := by decide +kernel
theorem dX4_become_1 : decode cX4_become 1 = .ok (.iload_n 1, 1) := by decide +kernel
theorem dX4_become_2 : decode cX4_become 2 = .ok (.putfield 15, 3) := by decide +kernel
theorem dX4_become_5 : decode cX4_become 5 = .ok (.aload_n 0, 1) := by decide +kernel
theorem dX4_become_6 : decode cX4_become 6 = .ok (.iload_n 1, 1) := by decide +kernel
theorem dX4_become_7 : decode cX4_become 7 = .ok (.ifCond .ne 7, 3) := by decide +kernel
theorem dX4_become_10 : decode cX4_become 10 = .ok (.iconst 0, 1) := by decide +kernel
theorem dX4_become_11 : decode cX4_become 11 = .ok (.goto 4, 3) := by decide +kernel
theorem dX4_become_14 : decode cX4_become 14 = .ok (.iload_n 2, 1) := by decide +kernel
theorem dX4_become_15 : decode cX4_become 15 = .ok (.putfield 19, 3) := by decide +kernel
theorem dX4_become_18 : decode cX4_become 18 = .ok (.iconst 0, 1) := by decide +kernel
theorem dX4_become_19 : decode cX4_become 19 = .ok (.istore_n 3, 1) := by decide +kernel
theorem dX4_become_20 : decode cX4_become 20 = .ok (.iload_n 3, 1) := by decide +kernel
theorem dX4_become_21 : decode cX4_become 21 = .ok (.bipush 12, 2) := by decide +kernel
theorem dX4_become_23 : decode cX4_become 23 = .ok (.if_icmp .ge 16, 3) := by decide +kernel
theorem dX4_become_26 : decode cX4_become 26 = .ok (.aload_n 0, 1) := by decide +kernel
theorem dX4_become_27 : decode cX4_become 27 = .ok (.getfield 9, 3) := by decide +kernel
theorem dX4_become_30 : decode cX4_become 30 = .ok (.iload_n 3, 1) := by decide +kernel
theorem dX4_become_31 : decode cX4_become 31 = .ok (.iconst 0, 1) := by decide +kernel
theorem dX4_become_32 : decode cX4_become 32 = .ok (.iastore, 1) := by decide +kernel
theorem dX4_become_33 : decode cX4_become 33 = .ok (.iinc 3 1, 3) := by decide +kernel
theorem dX4_become_36 : decode cX4_become 36 = .ok (.goto (-16), 3) := by decide +kernel
theorem dX4_become_39 : decode cX4_become 39 = .ok (.return_, 1) := by decide +kernel
theorem dX4_write_0 : decode cX4_write 0 = .ok (.aload_n 0, 1) := by decide +kernel
theorem dX4_write_1 : decode cX4_write 1 = .ok (.getfield 9, 3) := by decide +kernel
theorem dX4_write_4 : decode cX4_write 4 = .ok (.iload_n 1, 1) := by decide +kernel
theorem dX4_write_5 : decode cX4_write 5 = .ok (.aload_n 0, 1) := by decide +kernel
theorem dX4_write_6 : decode cX4_write 6 = .ok (.getfield 15, 3) := by decide +kernel
theorem dX4_write_9 : decode cX4_write 9 = .ok (.bipush 32, 2) := by decide +kernel
theorem dX4_write_11 : decode cX4_write 11 = .ok (.if_icmp .ne 7, 3) := by decide +kernel
theorem dX4_write_14 : decode cX4_write 14 = .ok (.iload_n 2, 1) := by decide +kernel
theorem dX4_write_15 : decode cX4_write 15 = .ok (.goto 13, 3) := by decide +kernel
theorem dX4_write_18 : decode cX4_write 18 = .ok (.iload_n 2, 1) := by decide +kernel
theorem dX4_write_19 : decode cX4_write 19 = .ok (.iconst 1, 1) := by decide +kernel
theorem dX4_write_20 : decode cX4_write 20 = .ok (.aload_n 0, 1) := by decide +kernel
theorem dX4_write_21 : decode cX4_write 21 = .ok (.getfield 15, 3) := by decide +kernel
theorem dX4_write_24 : decode cX4_write 24 = .ok (.ishl, 1) := by decide +kernel
theorem dX4_write_25 : decode cX4_write 25 = .ok (.iconst 1, 1) := by decide +kernel
theorem dX4_write_26 : decode cX4_write 26 = .ok (.isub, 1) := by decide +kernel
theorem dX4_write_27 : decode cX4_write 27 = .ok (.iand, 1) := by decide +kernel
theorem dX4_write_28 : decode cX4_write 28 = .ok (.iastore, 1) := by decide +kernel
theorem dX4_write_29 : decode cX4_write 29 = .ok (.return_, 1) := by decide +kernel
theorem dX4_hasStretch_0 : decode cX4_hasStretch 0 = .ok (.iload_n 1, 1) := by decide +kernel
theorem dX4_hasStretch_1 : decode cX4_hasStretch 1 = .ok (.ifCond .lt 29, 3) := by decide +kernel
theorem dX4_hasStretch_4 : decode cX4_hasStretch 4 = .ok (.iload_n 2, 1) := by decide +kernel
theorem dX4_hasStretch_5 : decode cX4_hasStretch 5 = .ok (.ifCond .lt 25, 3) := by decide +kernel
theorem dX4_hasStretch_8 : decode cX4_hasStretch 8 = .ok (.iload_n 2, 1) := by decide +kernel
theorem dX4_hasStretch_9 : decode cX4_hasStretch 9 = .ok (.aload_n 0, 1) := by decide +kernel
theorem dX4_hasStretch_10 : decode cX4_hasStretch 10 = .ok (.getfield 19, 3) := by decide +kernel
theorem dX4_hasStretch_13 : decode cX4_hasStretch 13 = .ok (.if_icmp .gt 17, 3) := by decide +kernel
theorem dX4_hasStretch_16 : decode cX4_hasStretch 16 = .ok (.iload_n 1, 1) := by decide +kernel
theorem dX4_hasStretch_17 : decode cX4_hasStretch 17 = .ok (.aload_n 0, 1) := by decide +kernel
theorem dX4_hasStretch_18 : decode cX4_hasStretch 18 = .ok (.getfield 19, 3) := by decide +kernel
theorem dX4_hasStretch_21 : decode cX4_hasStretch 21 = .ok (.iload_n 2, 1) := by decide +kernel
theorem dX4_hasStretch_22 : decode cX4_hasStretch 22 = .ok (.isub, 1) := by decide +kernel
theorem dX4_hasStretch_23 : decode cX4_hasStretch 23 = .ok (.if_icmp .gt 7, 3) := by decide +kernel
theorem dX4_hasStretch_26 : decode cX4_hasStretch 26 = .ok (.iconst 1, 1) := by decide +kernel
theorem dX4_hasStretch_27 : decode cX4_hasStretch 27 = .ok (.goto 4, 3) := by decide +kernel
theorem dX4_hasStretch_30 : decode cX4_hasStretch 30 = .ok (.iconst 0, 1) := by decide +kernel
theorem dX4_hasStretch_31 : decode cX4_hasStretch 31 = .ok (.ireturn, 1) := by decide +kernel
theorem dX4_goodsReadInto_0 : decode cX4_goodsReadInto 0 = .ok (.iload_n 1, 1) := by decide +kernel
theorem dX4_goodsReadInto_1 : decode cX4_goodsReadInto 1 = .ok (.istore_n 2, 1) := by decide +kernel
theorem dX4_goodsReadInto_2 : decode cX4_goodsReadInto 2 = .ok (.iconst 0, 1) := by decide +kernel
theorem dX4_goodsReadInto_3 : decode cX4_goodsReadInto 3 = .ok (.istore_n 3, 1) := by decide +kernel
theorem dX4_goodsReadInto_4 : decode cX4_goodsReadInto 4 = .ok (.iload_n 3, 1) := by decide +kernel
theorem dX4_goodsReadInto_5 : decode cX4_goodsReadInto 5 = .ok (.aload_n 0, 1) := by decide +kernel
theorem dX4_goodsReadInto_6 : decode cX4_goodsReadInto 6 = .ok (.getfield 19, 3) := by decide +kernel
theorem dX4_goodsReadInto_9 : decode cX4_goodsReadInto 9 = .ok (.if_icmp .ge 34, 3) := by decide +kernel
theorem dX4_goodsReadInto_12 : decode cX4_goodsReadInto 12 = .ok (.aload_n 0, 1) := by decide +kernel
theorem dX4_goodsReadInto_13 : decode cX4_goodsReadInto 13 = .ok (.getfield 9, 3) := by decide +kernel
theorem dX4_goodsReadInto_16 : decode cX4_goodsReadInto 16 = .ok (.iload_n 3, 1) := by decide +kernel
theorem dX4_goodsReadInto_17 : decode cX4_goodsReadInto 17 = .ok (.iaload, 1) := by decide +kernel
theorem dX4_goodsReadInto_18 : decode cX4_goodsReadInto 18 = .ok (.ifCond .eq 11, 3) := by decide +kernel
theorem dX4_goodsReadInto_21 : decode cX4_goodsReadInto 21 = .ok (.iload_n 2, 1) := by decide +kernel
theorem dX4_goodsReadInto_22 : decode cX4_goodsReadInto 22 = .ok (.iconst 1, 1) := by decide +kernel
theorem dX4_goodsReadInto_23 : decode cX4_goodsReadInto 23 = .ok (.iload_n 3, 1) := by decide +kernel
theorem dX4_goodsReadInto_24 : decode cX4_goodsReadInto 24 = .ok (.ishl, 1) := by decide +kernel
theorem dX4_goodsReadInto_25 : decode cX4_goodsReadInto 25 = .ok (.ior, 1) := by decide +kernel
theorem dX4_goodsReadInto_26 : decode cX4_goodsReadInto 26 = .ok (.goto 10, 3) := by decide +kernel
theorem dX4_goodsReadInto_29 : decode cX4_goodsReadInto 29 = .ok (.iload_n 2, 1) := by decide +kernel
theorem dX4_goodsReadInto_30 : decode cX4_goodsReadInto 30 = .ok (.iconst 1, 1) := by decide +kernel
theorem dX4_goodsReadInto_31 : decode cX4_goodsReadInto 31 = .ok (.iload_n 3, 1) := by decide +kernel
theorem dX4_goodsReadInto_32 : decode cX4_goodsReadInto 32 = .ok (.ishl, 1) := by decide +kernel
theorem dX4_goodsReadInto_33 : decode cX4_goodsReadInto 33 = .ok (.iconst (-1), 1) := by decide +kernel
theorem dX4_goodsReadInto_34 : decode cX4_goodsReadInto 34 = .ok (.ixor, 1) := by decide +kernel
theorem dX4_goodsReadInto_35 : decode cX4_goodsReadInto 35 = .ok (.iand, 1) := by decide +kernel
theorem dX4_goodsReadInto_36 : decode cX4_goodsReadInto 36 = .ok (.istore_n 2, 1) := by decide +kernel
theorem dX4_goodsReadInto_37 : decode cX4_goodsReadInto 37 = .ok (.iinc 3 1, 3) := by decide +kernel
theorem dX4_goodsReadInto_40 : decode cX4_goodsReadInto 40 = .ok (.goto (-36), 3) := by decide +kernel
theorem dX4_goodsReadInto_43 : decode cX4_goodsReadInto 43 = .ok (.iload_n 2, 1) := by decide +kernel
theorem dX4_goodsReadInto_44 : decode cX4_goodsReadInto 44 = .ok (.ireturn, 1) := by decide +kernel
set_option maxRecDepth 20000 in
theorem ggX5_init_X2_init : GoodIn wsX5_init wsX2_init := goodIn_r _ [23, 24, 2, 3, 25, 26, 27, 28, 29, 30, 31, 32, 33, 34, 35, 36, 57, 58, 59, 60, 61, 62, 63, 86, 87, 88, 89, 90, 91, 92, 93, 94] (by decide +kernel) (by decide +kernel)
set_option maxRecDepth 20000 in
theorem gX5_init_X2_init : GoodIn wsX5_init (wsX2_init) := ggX5_init_X2_init
set_option maxRecDepth 20000 in
theorem ggX5_init_X4_init : GoodIn wsX5_init wsX4_init := goodIn_r _ [38, 39, 2, 3, 27, 40, 71, 72, 73] (by decide +kernel) (by decide +kernel)
set_option maxRecDepth 20000 in
theorem gX5_init_X4_init_n25 : GoodIn wsX5_init (wsX4_init) := ggX5_init_X4_init
set_option maxRecDepth 20000 in
theorem ggX5_init_X3_init : GoodIn wsX5_init wsX3_init := goodIn_r _ [42, 43, 2, 3, 27, 44, 45, 46, 47, 48, 49, 50, 74, 75, 76, 77, 78, 79, 80, 81] (by decide +kernel) (by decide +kernel)
set_option maxRecDepth 20000 in
theorem gX5_init_X3_init_n28 : GoodIn wsX5_init (wsX3_init) := ggX5_init_X3_init
set_option maxRecDepth 20000 in
theorem ggX5_init_X0_init : GoodIn wsX5_init wsX0_init := goodIn_r _ [52, 53, 2, 3, 27, 54, 55, 56, 82, 83, 84, 85] (by decide +kernel) (by decide +kernel)
set_option maxRecDepth 20000 in
theorem gX5_init_X0_init_n35 : GoodIn wsX5_init (wsX0_init) := ggX5_init_X0_init
theorem dX5_init_0 : decode cX5_init 0 = .ok (.aload_n 0, 1) := by decide +kernel
theorem dX5_init_1 : decode cX5_init 1 = .ok (.invokespecial 3, 3) := by decide +kernel
theorem dX5_init_4 : decode cX5_init 4 = .ok (.aload_n 0, 1) := by decide +kernel
theorem dX5_init_5 : decode cX5_init 5 = .ok (.new 9, 3) := by decide +kernel
theorem dX5_init_8 : decode cX5_init 8 = .ok (.dup, 1) := by decide +kernel
theorem dX5_init_9 : decode cX5_init 9 = .ok (.invokespecial 11, 3) := by decide +kernel
theorem dX5_init_12 : decode cX5_init 12 = .ok (.putfield 12, 3) := by decide +kernel
theorem dX5_init_15 : decode cX5_init 15 = .ok (.aload_n 0, 1) := by decide +kernel
theorem dX5_init_16 : decode cX5_init 16 = .ok (.new 9, 3) := by decide +kernel
theorem dX5_init_19 : decode cX5_init 19 = .ok (.dup, 1) := by decide +kernel
theorem dX5_init_20 : decode cX5_init 20 = .ok (.invokespecial 11, 3) := by decide +kernel
theorem dX5_init_23 : decode cX5_init 23 = .ok (.putfield 16, 3) := by decide +kernel
theorem dX5_init_26 : decode cX5_init 26 = .ok (.aload_n 0, 1) := by decide +kernel
theorem dX5_init_27 : decode cX5_init 27 = .ok (.iconst 4, 1) := by decide +kernel
theorem dX5_init_28 : decode cX5_init 28 = .ok (.anewarray 19, 3) := by decide +kernel
theorem dX5_init_31 : decode cX5_init 31 = .ok (.putfield 21, 3) := by decide +kernel
theorem dX5_init_34 : decode cX5_init 34 = .ok (.iconst 0, 1) := by decide +kernel
theorem dX5_init_35 : decode cX5_init 35 = .ok (.istore_n 1, 1) := by decide +kernel
theorem dX5_init_36 : decode cX5_init 36 = .ok (.iload_n 1, 1) := by decide +kernel
theorem dX5_init_37 : decode cX5_init 37 = .ok (.iconst 4, 1) := by decide +kernel
theorem dX5_init_38 : decode cX5_init 38 = .ok (.if_icmp .ge 22, 3) := by decide +kernel
theorem dX5_init_41 : decode cX5_init 41 = .ok (.aload_n 0, 1) := by decide +kernel
theorem dX5_init_42 : decode cX5_init 42 = .ok (.getfield 21, 3) := by decide +kernel
theorem dX5_init_45 : decode cX5_init 45 = .ok (.iload_n 1, 1) := by decide +kernel
theorem dX5_init_46 : decode cX5_init 46 = .ok (.new 19, 3) := by decide +kernel
theorem dX5_init_49 : decode cX5_init 49 = .ok (.dup, 1) := by decide +kernel
theorem dX5_init_50 : decode cX5_init 50 = .ok (.invokespecial 25, 3) := by decide +kernel
theorem dX5_init_53 : decode cX5_init 53 = .ok (.aastore, 1) := by decide +kernel
theorem dX5_init_54 : decode cX5_init 54 = .ok (.iinc 1 1, 3) := by decide +kernel
theorem dX5_init_57 : decode cX5_init 57 = .ok (.goto (-21), 3) := by decide +kernel
theorem dX5_init_60 : decode cX5_init 60 = .ok (.aload_n 0, 1) := by decide +kernel
theorem dX5_init_61 : decode cX5_init 61 = .ok (.new 26, 3) := by decide +kernel
theorem dX5_init_64 : decode cX5_init 64 = .ok (.dup, 1) := by decide +kernel
theorem dX5_init_65 : decode cX5_init 65 = .ok (.invokespecial 28, 3) := by decide +kernel
theorem dX5_init_68 : decode cX5_init 68 = .ok (.putfield 29, 3) := by decide +kernel
theorem dX5_init_71 : decode cX5_init 71 = .ok (.aload_n 0, 1) := by decide +kernel
theorem dX5_init_72 : decode cX5_init 72 = .ok (.new 33, 3) := by decide +kernel
theorem dX5_init_75 : decode cX5_init 75 = .ok (.dup, 1) := by decide +kernel
theorem dX5_init_76 : decode cX5_init 76 = .ok (.invokespecial 35, 3) := by decide +kernel
theorem dX5_init_79 : decode cX5_init 79 = .ok (.putfield 36, 3) := by decide +kernel
theorem dX5_init_82 : decode cX5_init 82 = .ok (.return_, 1) := by decide +kernel
set_option maxRecDepth 20000 in
theorem ggX5_grave_X5_isKind : GoodIn wsX5_grave wsX5_isKind := goodIn_r _ [8] (by decide +kernel) (by decide +kernel)
set_option maxRecDepth 20000 in
theorem gX5_grave_X5_isKind : GoodIn wsX5_grave (va_wsS RX5 40 yX5_isKind wsX5_isKind) := goodIn_app (goodIn_of _ (by decide +kernel)) ggX5_grave_X5_isKind
set_option maxRecDepth 20000 in
theorem ggX5_grave_X5_isDistance : GoodIn wsX5_grave wsX5_isDistance := goodIn_r _ [11] (by decide +kernel) (by decide +kernel)
set_option maxRecDepth 20000 in
theorem gX5_grave_X5_isDistance : GoodIn wsX5_grave (va_wsS RX5 44 yX5_isDistance wsX5_isDistance) := goodIn_app (goodIn_of _ (by decide +kernel)) ggX5_grave_X5_isDistance
set_option maxRecDepth 20000 in
theorem ggX5_grave_X5_finding : GoodIn wsX5_grave wsX5_finding := goodIn_r _ [15, 16, 38, 39, 40, 41, 42, 43, 44] (by decide +kernel) (by decide +kernel)
set_option maxRecDepth 20000 in
theorem gX5_grave_X5_finding : GoodIn wsX5_grave (wsV RX5 48 RX5 yX5_finding wsX5_finding) := goodIn_app (goodIn_of _ (by decide +kernel)) ggX5_grave_X5_finding
set_option maxRecDepth 20000 in
theorem ggX5_grave_X2_open : GoodIn wsX5_grave wsX2_open := goodIn_r _ [21, 22, 23, 24, 25, 26, 27, 28, 29, 30, 31, 32, 33, 34, 35, 36, 37, 45, 46, 47, 48, 49, 50, 51, 52, 53, 54, 55, 56, 57, 58, 59, 60] (by decide +kernel) (by decide +kernel)
set_option maxRecDepth 20000 in
theorem gX5_grave_X2_open : GoodIn wsX5_grave (wsV RX5 57 RX2 yX2_open wsX2_open) := goodIn_app (goodIn_of _ (by decide +kernel)) ggX5_grave_X2_open
theorem dX5_grave_0 : decode cX5_grave 0 = .ok (.iload_n 1, 1) := by decide +kernel
theorem dX5_grave_1 : decode cX5_grave 1 = .ok (.invokestatic 40, 3) := by decide +kernel
theorem dX5_grave_4 : decode cX5_grave 4 = .ok (.ifCond .eq 17, 3) := by decide +kernel
theorem dX5_grave_7 : decode cX5_grave 7 = .ok (.iload_n 2, 1) := by decide +kernel
theorem dX5_grave_8 : decode cX5_grave 8 = .ok (.invokestatic 44, 3) := by decide +kernel
theorem dX5_grave_11 : decode cX5_grave 11 = .ok (.ifCond .eq 10, 3) := by decide +kernel
theorem dX5_grave_14 : decode cX5_grave 14 = .ok (.iload_n 3, 1) := by decide +kernel
theorem dX5_grave_15 : decode cX5_grave 15 = .ok (.invokestatic 44, 3) := by decide +kernel
theorem dX5_grave_18 : decode cX5_grave 18 = .ok (.ifCond .ne 10, 3) := by decide +kernel
theorem dX5_grave_21 : decode cX5_grave 21 = .ok (.aload_n 0, 1) := by decide +kernel
theorem dX5_grave_22 : decode cX5_grave 22 = .ok (.ldc 47, 2) := by decide +kernel
theorem dX5_grave_24 : decode cX5_grave 24 = .ok (.invokevirtual 48, 3) := by decide +kernel
theorem dX5_grave_27 : decode cX5_grave 27 = .ok (.ireturn, 1) := by decide +kernel
theorem dX5_grave_28 : decode cX5_grave 28 = .ok (.aload_n 0, 1) := by decide +kernel
theorem dX5_grave_29 : decode cX5_grave 29 = .ok (.getfield 12, 3) := by decide +kernel
theorem dX5_grave_32 : decode cX5_grave 32 = .ok (.getfield 52, 3) := by decide +kernel
theorem dX5_grave_35 : decode cX5_grave 35 = .ok (.bipush 10, 2) := by decide +kernel
theorem dX5_grave_37 : decode cX5_grave 37 = .ok (.if_icmp .lt 10, 3) := by decide +kernel
theorem dX5_grave_40 : decode cX5_grave 40 = .ok (.aload_n 0, 1) := by decide +kernel
theorem dX5_grave_41 : decode cX5_grave 41 = .ok (.ldc 56, 2) := by decide +kernel
theorem dX5_grave_43 : decode cX5_grave 43 = .ok (.invokevirtual 48, 3) := by decide +kernel
theorem dX5_grave_46 : decode cX5_grave 46 = .ok (.ireturn, 1) := by decide +kernel
theorem dX5_grave_47 : decode cX5_grave 47 = .ok (.aload_n 0, 1) := by decide +kernel
theorem dX5_grave_48 : decode cX5_grave 48 = .ok (.getfield 12, 3) := by decide +kernel
theorem dX5_grave_51 : decode cX5_grave 51 = .ok (.iload_n 1, 1) := by decide +kernel
theorem dX5_grave_52 : decode cX5_grave 52 = .ok (.iload_n 2, 1) := by decide +kernel
theorem dX5_grave_53 : decode cX5_grave 53 = .ok (.iload_n 3, 1) := by decide +kernel
theorem dX5_grave_54 : decode cX5_grave 54 = .ok (.invokevirtual 57, 3) := by decide +kernel
theorem dX5_grave_57 : decode cX5_grave 57 = .ok (.ireturn, 1) := by decide +kernel
set_option maxRecDepth 20000 in
theorem ggX5_as_X2_holds : GoodIn wsX5_as wsX2_holds := goodIn_r _ [9, 10, 34, 35, 36, 37, 38, 39, 40] (by decide +kernel) (by decide +kernel)
set_option maxRecDepth 20000 in
theorem gX5_as_X2_holds : GoodIn wsX5_as (wsV RX5 61 RX2 yX2_holds wsX2_holds) := goodIn_app (goodIn_of _ (by decide +kernel)) ggX5_as_X2_holds
set_option maxRecDepth 20000 in
theorem ggX5_as_X5_isKind : GoodIn wsX5_as wsX5_isKind := goodIn_r _ [14] (by decide +kernel) (by decide +kernel)
set_option maxRecDepth 20000 in
theorem gX5_as_X5_isKind : GoodIn wsX5_as (va_wsS RX5 40 yX5_isKind wsX5_isKind) := goodIn_app (goodIn_of _ (by decide +kernel)) ggX5_as_X5_isKind
set_option maxRecDepth 20000 in
theorem ggX5_as_X5_finding : GoodIn wsX5_as wsX5_finding := goodIn_r _ [18, 19, 27, 28, 29, 30, 31, 32, 33] (by decide +kernel) (by decide +kernel)
set_option maxRecDepth 20000 in
theorem gX5_as_X5_finding : GoodIn wsX5_as (wsV RX5 48 RX5 yX5_finding wsX5_finding) := goodIn_app (goodIn_of _ (by decide +kernel)) ggX5_as_X5_finding
set_option maxRecDepth 20000 in
theorem ggX5_as_X1_isOfKind : GoodIn wsX5_as wsX1_isOfKind := goodIn_r _ [24, 25, 26, 41, 42, 43, 44, 45, 46, 47, 48, 49] (by decide +kernel) (by decide +kernel)
set_option maxRecDepth 20000 in
theorem gX5_as_X1_isOfKind : GoodIn wsX5_as (wsV RX5 68 RX1 yX1_isOfKind wsX1_isOfKind) := goodIn_app (goodIn_of _ (by decide +kernel)) ggX5_as_X1_isOfKind
theorem dX5_as_0 : decode cX5_as 0 = .ok (.aload_n 0, 1) := by decide +kernel
theorem dX5_as_1 : decode cX5_as 1 = .ok (.getfield 12, 3) := by decide +kernel
theorem dX5_as_4 : decode cX5_as 4 = .ok (.iload_n 1, 1) := by decide +kernel
theorem dX5_as_5 : decode cX5_as 5 = .ok (.invokevirtual 61, 3) := by decide +kernel
theorem dX5_as_8 : decode cX5_as 8 = .ok (.ifCond .eq 10, 3) := by decide +kernel
theorem dX5_as_11 : decode cX5_as 11 = .ok (.iload_n 2, 1) := by decide +kernel
theorem dX5_as_12 : decode cX5_as 12 = .ok (.invokestatic 40, 3) := by decide +kernel
theorem dX5_as_15 : decode cX5_as 15 = .ok (.ifCond .ne 10, 3) := by decide +kernel
theorem dX5_as_18 : decode cX5_as 18 = .ok (.aload_n 0, 1) := by decide +kernel
theorem dX5_as_19 : decode cX5_as 19 = .ok (.ldc 47, 2) := by decide +kernel
theorem dX5_as_21 : decode cX5_as 21 = .ok (.invokevirtual 48, 3) := by decide +kernel
theorem dX5_as_24 : decode cX5_as 24 = .ok (.ireturn, 1) := by decide +kernel
theorem dX5_as_25 : decode cX5_as 25 = .ok (.aload_n 0, 1) := by decide +kernel
theorem dX5_as_26 : decode cX5_as 26 = .ok (.getfield 12, 3) := by decide +kernel
theorem dX5_as_29 : decode cX5_as 29 = .ok (.getfield 64, 3) := by decide +kernel
theorem dX5_as_32 : decode cX5_as 32 = .ok (.iload_n 1, 1) := by decide +kernel
theorem dX5_as_33 : decode cX5_as 33 = .ok (.aaload, 1) := by decide +kernel
theorem dX5_as_34 : decode cX5_as 34 = .ok (.iload_n 2, 1) := by decide +kernel
theorem dX5_as_35 : decode cX5_as 35 = .ok (.invokevirtual 68, 3) := by decide +kernel
theorem dX5_as_38 : decode cX5_as 38 = .ok (.ifCond .ne 10, 3) := by decide +kernel
theorem dX5_as_41 : decode cX5_as 41 = .ok (.aload_n 0, 1) := by decide +kernel
theorem dX5_as_42 : decode cX5_as 42 = .ok (.ldc 73, 2) := by decide +kernel
theorem dX5_as_44 : decode cX5_as 44 = .ok (.invokevirtual 48, 3) := by decide +kernel
theorem dX5_as_47 : decode cX5_as 47 = .ok (.ireturn, 1) := by decide +kernel
theorem dX5_as_48 : decode cX5_as 48 = .ok (.iload_n 1, 1) := by decide +kernel
theorem dX5_as_49 : decode cX5_as 49 = .ok (.ireturn, 1) := by decide +kernel
set_option maxRecDepth 20000 in
theorem ggX5_goods_X2_holds : GoodIn wsX5_goods wsX2_holds := goodIn_r _ [9, 10, 24, 25, 26, 27, 28, 29, 30] (by decide +kernel) (by decide +kernel)
set_option maxRecDepth 20000 in
theorem gX5_goods_X2_holds : GoodIn wsX5_goods (wsV RX5 61 RX2 yX2_holds wsX2_holds) := goodIn_app (goodIn_of _ (by decide +kernel)) ggX5_goods_X2_holds
set_option maxRecDepth 20000 in
theorem ggX5_goods_X5_finding : GoodIn wsX5_goods wsX5_finding := goodIn_r _ [15, 16, 17, 18, 19, 20, 21, 22, 23] (by decide +kernel) (by decide +kernel)
set_option maxRecDepth 20000 in
theorem gX5_goods_X5_finding : GoodIn wsX5_goods (wsV RX5 48 RX5 yX5_finding wsX5_finding) := goodIn_app (goodIn_of _ (by decide +kernel)) ggX5_goods_X5_finding
theorem dX5_goods_0 : decode cX5_goods 0 = .ok (.aload_n 0, 1) := by decide +kernel
theorem dX5_goods_1 : decode cX5_goods 1 = .ok (.getfield 12, 3) := by decide +kernel
theorem dX5_goods_4 : decode cX5_goods 4 = .ok (.iload_n 1, 1) := by decide +kernel
theorem dX5_goods_5 : decode cX5_goods 5 = .ok (.invokevirtual 61, 3) := by decide +kernel
theorem dX5_goods_8 : decode cX5_goods 8 = .ok (.ifCond .eq 14, 3) := by decide +kernel
theorem dX5_goods_11 : decode cX5_goods 11 = .ok (.iload_n 2, 1) := by decide +kernel
theorem dX5_goods_12 : decode cX5_goods 12 = .ok (.ifCond .lt 10, 3) := by decide +kernel
theorem dX5_goods_15 : decode cX5_goods 15 = .ok (.iload_n 2, 1) := by decide +kernel
theorem dX5_goods_16 : decode cX5_goods 16 = .ok (.sipush 4095, 3) := by decide +kernel
theorem dX5_goods_19 : decode cX5_goods 19 = .ok (.if_icmp .le 10, 3) := by decide +kernel
theorem dX5_goods_22 : decode cX5_goods 22 = .ok (.aload_n 0, 1) := by decide +kernel
theorem dX5_goods_23 : decode cX5_goods 23 = .ok (.ldc 47, 2) := by decide +kernel
theorem dX5_goods_25 : decode cX5_goods 25 = .ok (.invokevirtual 48, 3) := by decide +kernel
theorem dX5_goods_28 : decode cX5_goods 28 = .ok (.ireturn, 1) := by decide +kernel
theorem dX5_goods_29 : decode cX5_goods 29 = .ok (.aload_n 0, 1) := by decide +kernel
theorem dX5_goods_30 : decode cX5_goods 30 = .ok (.getfield 12, 3) := by decide +kernel
theorem dX5_goods_33 : decode cX5_goods 33 = .ok (.getfield 64, 3) := by decide +kernel
theorem dX5_goods_36 : decode cX5_goods 36 = .ok (.iload_n 1, 1) := by decide +kernel
theorem dX5_goods_37 : decode cX5_goods 37 = .ok (.aaload, 1) := by decide +kernel
theorem dX5_goods_38 : decode cX5_goods 38 = .ok (.getfield 74, 3) := by decide +kernel
theorem dX5_goods_41 : decode cX5_goods 41 = .ok (.istore_n 3, 1) := by decide +kernel
theorem dX5_goods_42 : decode cX5_goods 42 = .ok (.aload_n 0, 1) := by decide +kernel
theorem dX5_goods_43 : decode cX5_goods 43 = .ok (.getfield 12, 3) := by decide +kernel
theorem dX5_goods_46 : decode cX5_goods 46 = .ok (.getfield 64, 3) := by decide +kernel
theorem dX5_goods_49 : decode cX5_goods 49 = .ok (.iload_n 1, 1) := by decide +kernel
theorem dX5_goods_50 : decode cX5_goods 50 = .ok (.aaload, 1) := by decide +kernel
theorem dX5_goods_51 : decode cX5_goods 51 = .ok (.iload_n 2, 1) := by decide +kernel
theorem dX5_goods_52 : decode cX5_goods 52 = .ok (.putfield 74, 3) := by decide +kernel
theorem dX5_goods_55 : decode cX5_goods 55 = .ok (.iload_n 3, 1) := by decide +kernel
theorem dX5_goods_56 : decode cX5_goods 56 = .ok (.ireturn, 1) := by decide +kernel
set_option maxRecDepth 20000 in
theorem ggX5_of_X2_holds : GoodIn wsX5_of wsX2_holds := goodIn_r _ [15, 16, 45, 46, 47, 48, 49, 50, 51] (by decide +kernel) (by decide +kernel)
set_option maxRecDepth 20000 in
theorem gX5_of_X2_holds : GoodIn wsX5_of (wsV RX5 61 RX2 yX2_holds wsX2_holds) := goodIn_app (goodIn_of _ (by decide +kernel)) ggX5_of_X2_holds
set_option maxRecDepth 20000 in
theorem ggX5_of_X5_finding : GoodIn wsX5_of wsX5_finding := goodIn_r _ [21, 22, 38, 39, 40, 41, 42, 43, 44] (by decide +kernel) (by decide +kernel)
set_option maxRecDepth 20000 in
theorem gX5_of_X5_finding : GoodIn wsX5_of (wsV RX5 48 RX5 yX5_finding wsX5_finding) := goodIn_app (goodIn_of _ (by decide +kernel)) ggX5_of_X5_finding
set_option maxRecDepth 20000 in
theorem ggX5_of_J6_bitCount_0f7a4 : GoodIn wsX5_of wsJ6_bitCount_0f7a4 := goodIn_r _ [26, 27, 28, 29] (by decide +kernel) (by decide +kernel)
set_option maxRecDepth 20000 in
theorem gX5_of_J6_bitCount_0f7a4 : GoodIn wsX5_of (va_wsS RX5 95 yJ6_bitCount_0f7a4 wsJ6_bitCount_0f7a4) := goodIn_app (goodIn_of _ (by decide +kernel)) ggX5_of_J6_bitCount_0f7a4
set_option maxRecDepth 20000 in
theorem ggX5_of_X2_cuttersOf : GoodIn wsX5_of wsX2_cuttersOf := goodIn_r _ [33, 16, 34, 35, 36, 20, 37, 45, 46, 47, 48, 49, 50, 51, 52, 53, 54, 55, 56, 57, 58, 59, 60] (by decide +kernel) (by decide +kernel)
set_option maxRecDepth 20000 in
theorem gX5_of_X2_cuttersOf : GoodIn wsX5_of (wsV RX5 100 RX2 yX2_cuttersOf wsX2_cuttersOf) := goodIn_app (goodIn_of _ (by decide +kernel)) ggX5_of_X2_cuttersOf
theorem dX5_of_0 : decode cX5_of 0 = .ok (.aload_n 0, 1) := by decide +kernel
theorem dX5_of_1 : decode cX5_of 1 = .ok (.getfield 12, 3) := by decide +kernel
theorem dX5_of_4 : decode cX5_of 4 = .ok (.iload_n 1, 1) := by decide +kernel
theorem dX5_of_5 : decode cX5_of 5 = .ok (.invokevirtual 61, 3) := by decide +kernel
theorem dX5_of_8 : decode cX5_of 8 = .ok (.ifCond .ne 10, 3) := by decide +kernel
theorem dX5_of_11 : decode cX5_of 11 = .ok (.aload_n 0, 1) := by decide +kernel
theorem dX5_of_12 : decode cX5_of 12 = .ok (.ldc 47, 2) := by decide +kernel
theorem dX5_of_14 : decode cX5_of 14 = .ok (.invokevirtual 48, 3) := by decide +kernel
theorem dX5_of_17 : decode cX5_of 17 = .ok (.ireturn, 1) := by decide +kernel
theorem dX5_of_18 : decode cX5_of 18 = .ok (.aload_n 0, 1) := by decide +kernel
theorem dX5_of_19 : decode cX5_of 19 = .ok (.getfield 12, 3) := by decide +kernel
theorem dX5_of_22 : decode cX5_of 22 = .ok (.getfield 64, 3) := by decide +kernel
theorem dX5_of_25 : decode cX5_of 25 = .ok (.iload_n 1, 1) := by decide +kernel
theorem dX5_of_26 : decode cX5_of 26 = .ok (.aaload, 1) := by decide +kernel
theorem dX5_of_27 : decode cX5_of 27 = .ok (.astore_n 3, 1) := by decide +kernel
theorem dX5_of_28 : decode cX5_of 28 = .ok (.iload_n 2, 1) := by decide +kernel
theorem dX5_of_29 : decode cX5_of 29 = .ok (.tableswitch 97 0 7 #[47, 52, 57, 62, 67, 72, 77, 85], 47) := by decide +kernel
theorem dX5_of_76 : decode cX5_of 76 = .ok (.aload_n 3, 1) := by decide +kernel
theorem dX5_of_77 : decode cX5_of 77 = .ok (.getfield 77, 3) := by decide +kernel
theorem dX5_of_80 : decode cX5_of 80 = .ok (.ireturn, 1) := by decide +kernel
theorem dX5_of_81 : decode cX5_of 81 = .ok (.aload_n 3, 1) := by decide +kernel
theorem dX5_of_82 : decode cX5_of 82 = .ok (.getfield 80, 3) := by decide +kernel
theorem dX5_of_85 : decode cX5_of 85 = .ok (.ireturn, 1) := by decide +kernel
theorem dX5_of_86 : decode cX5_of 86 = .ok (.aload_n 3, 1) := by decide +kernel
theorem dX5_of_87 : decode cX5_of 87 = .ok (.getfield 83, 3) := by decide +kernel
theorem dX5_of_90 : decode cX5_of 90 = .ok (.ireturn, 1) := by decide +kernel
theorem dX5_of_91 : decode cX5_of 91 = .ok (.aload_n 3, 1) := by decide +kernel
theorem dX5_of_92 : decode cX5_of 92 = .ok (.getfield 74, 3) := by decide +kernel
theorem dX5_of_95 : decode cX5_of 95 = .ok (.ireturn, 1) := by decide +kernel
theorem dX5_of_96 : decode cX5_of 96 = .ok (.aload_n 3, 1) := by decide +kernel
theorem dX5_of_97 : decode cX5_of 97 = .ok (.getfield 86, 3) := by decide +kernel
theorem dX5_of_100 : decode cX5_of 100 = .ok (.ireturn, 1) := by decide +kernel
theorem dX5_of_101 : decode cX5_of 101 = .ok (.aload_n 3, 1) := by decide +kernel
theorem dX5_of_102 : decode cX5_of 102 = .ok (.getfield 89, 3) := by decide +kernel
theorem dX5_of_105 : decode cX5_of 105 = .ok (.ireturn, 1) := by decide +kernel
theorem dX5_of_106 : decode cX5_of 106 = .ok (.aload_n 3, 1) := by decide +kernel
theorem dX5_of_107 : decode cX5_of 107 = .ok (.getfield 92, 3) := by decide +kernel
theorem dX5_of_110 : decode cX5_of 110 = .ok (.invokestatic 95, 3) := by decide +kernel
theorem dX5_of_113 : decode cX5_of 113 = .ok (.ireturn, 1) := by decide +kernel
theorem dX5_of_114 : decode cX5_of 114 = .ok (.aload_n 0, 1) := by decide +kernel
theorem dX5_of_115 : decode cX5_of 115 = .ok (.getfield 12, 3) := by decide +kernel
theorem dX5_of_118 : decode cX5_of 118 = .ok (.iload_n 1, 1) := by decide +kernel
theorem dX5_of_119 : decode cX5_of 119 = .ok (.invokevirtual 100, 3) := by decide +kernel
theorem dX5_of_122 : decode cX5_of 122 = .ok (.invokestatic 95, 3) := by decide +kernel
theorem dX5_of_125 : decode cX5_of 125 = .ok (.ireturn, 1) := by decide +kernel
theorem dX5_of_126 : decode cX5_of 126 = .ok (.aload_n 0, 1) := by decide +kernel
theorem dX5_of_127 : decode cX5_of 127 = .ok (.ldc 47, 2) := by decide +kernel
theorem dX5_of_129 : decode cX5_of 129 = .ok (.invokevirtual 48, 3) := by decide +kernel
theorem dX5_of_132 : decode cX5_of 132 = .ok (.ireturn, 1) := by decide +kernel
set_option maxRecDepth 20000 in
theorem ggX5_span_X2_holds : GoodIn wsX5_span wsX2_holds := goodIn_r _ [11, 12, 29, 30, 31, 32, 33, 34, 35] (by decide +kernel) (by decide +kernel)
set_option maxRecDepth 20000 in
theorem gX5_span_X2_holds : GoodIn wsX5_span (wsV RX5 61 RX2 yX2_holds wsX2_holds) := goodIn_app (goodIn_of _ (by decide +kernel)) ggX5_span_X2_holds
set_option maxRecDepth 20000 in
theorem ggX5_span_X5_isYear : GoodIn wsX5_span wsX5_isYear := goodIn_r _ [16] (by decide +kernel) (by decide +kernel)
set_option maxRecDepth 20000 in
theorem gX5_span_X5_isYear : GoodIn wsX5_span (va_wsS RX5 103 yX5_isYear wsX5_isYear) := goodIn_app (goodIn_of _ (by decide +kernel)) ggX5_span_X5_isYear
set_option maxRecDepth 20000 in
theorem ggX5_span_X5_finding : GoodIn wsX5_span wsX5_finding := goodIn_r _ [20, 21, 22, 23, 24, 25, 26, 27, 28] (by decide +kernel) (by decide +kernel)
set_option maxRecDepth 20000 in
theorem gX5_span_X5_finding : GoodIn wsX5_span (wsV RX5 48 RX5 yX5_finding wsX5_finding) := goodIn_app (goodIn_of _ (by decide +kernel)) ggX5_span_X5_finding
theorem dX5_span_0 : decode cX5_span 0 = .ok (.aload_n 0, 1) := by decide +kernel
theorem dX5_span_1 : decode cX5_span 1 = .ok (.getfield 12, 3) := by decide +kernel
theorem dX5_span_4 : decode cX5_span 4 = .ok (.iload_n 1, 1) := by decide +kernel
theorem dX5_span_5 : decode cX5_span 5 = .ok (.invokevirtual 61, 3) := by decide +kernel
theorem dX5_span_8 : decode cX5_span 8 = .ok (.ifCond .eq 17, 3) := by decide +kernel
theorem dX5_span_11 : decode cX5_span 11 = .ok (.iload_n 2, 1) := by decide +kernel
theorem dX5_span_12 : decode cX5_span 12 = .ok (.invokestatic 103, 3) := by decide +kernel
theorem dX5_span_15 : decode cX5_span 15 = .ok (.ifCond .eq 10, 3) := by decide +kernel
theorem dX5_span_18 : decode cX5_span 18 = .ok (.iload_n 3, 1) := by decide +kernel
theorem dX5_span_19 : decode cX5_span 19 = .ok (.invokestatic 103, 3) := by decide +kernel
theorem dX5_span_22 : decode cX5_span 22 = .ok (.ifCond .ne 10, 3) := by decide +kernel
theorem dX5_span_25 : decode cX5_span 25 = .ok (.aload_n 0, 1) := by decide +kernel
theorem dX5_span_26 : decode cX5_span 26 = .ok (.ldc 47, 2) := by decide +kernel
theorem dX5_span_28 : decode cX5_span 28 = .ok (.invokevirtual 48, 3) := by decide +kernel
theorem dX5_span_31 : decode cX5_span 31 = .ok (.ireturn, 1) := by decide +kernel
theorem dX5_span_32 : decode cX5_span 32 = .ok (.iload_n 2, 1) := by decide +kernel
theorem dX5_span_33 : decode cX5_span 33 = .ok (.iload_n 3, 1) := by decide +kernel
theorem dX5_span_34 : decode cX5_span 34 = .ok (.if_icmp .le 10, 3) := by decide +kernel
theorem dX5_span_37 : decode cX5_span 37 = .ok (.aload_n 0, 1) := by decide +kernel
theorem dX5_span_38 : decode cX5_span 38 = .ok (.ldc 106, 2) := by decide +kernel
theorem dX5_span_40 : decode cX5_span 40 = .ok (.invokevirtual 48, 3) := by decide +kernel
theorem dX5_span_43 : decode cX5_span 43 = .ok (.ireturn, 1) := by decide +kernel
theorem dX5_span_44 : decode cX5_span 44 = .ok (.aload_n 0, 1) := by decide +kernel
theorem dX5_span_45 : decode cX5_span 45 = .ok (.getfield 12, 3) := by decide +kernel
theorem dX5_span_48 : decode cX5_span 48 = .ok (.getfield 64, 3) := by decide +kernel
theorem dX5_span_51 : decode cX5_span 51 = .ok (.iload_n 1, 1) := by decide +kernel
theorem dX5_span_52 : decode cX5_span 52 = .ok (.aaload, 1) := by decide +kernel
theorem dX5_span_53 : decode cX5_span 53 = .ok (.iload_n 2, 1) := by decide +kernel
theorem dX5_span_54 : decode cX5_span 54 = .ok (.putfield 86, 3) := by decide +kernel
theorem dX5_span_57 : decode cX5_span 57 = .ok (.aload_n 0, 1) := by decide +kernel
theorem dX5_span_58 : decode cX5_span 58 = .ok (.getfield 12, 3) := by decide +kernel
theorem dX5_span_61 : decode cX5_span 61 = .ok (.getfield 64, 3) := by decide +kernel
theorem dX5_span_64 : decode cX5_span 64 = .ok (.iload_n 1, 1) := by decide +kernel
theorem dX5_span_65 : decode cX5_span 65 = .ok (.aaload, 1) := by decide +kernel
theorem dX5_span_66 : decode cX5_span 66 = .ok (.iload_n 3, 1) := by decide +kernel
theorem dX5_span_67 : decode cX5_span 67 = .ok (.putfield 89, 3) := by decide +kernel
theorem dX5_span_70 : decode cX5_span 70 = .ok (.iconst 1, 1) := by decide +kernel
theorem dX5_span_71 : decode cX5_span 71 = .ok (.ireturn, 1) := by decide +kernel
set_option maxRecDepth 20000 in
theorem ggX5_coin_X2_holds : GoodIn wsX5_coin wsX2_holds := goodIn_r _ [16, 17, 41, 42, 43, 44, 45, 46, 47] (by decide +kernel) (by decide +kernel)
set_option maxRecDepth 20000 in
theorem gX5_coin_X2_holds : GoodIn wsX5_coin (wsV RX5 61 RX2 yX2_holds wsX2_holds) := goodIn_app (goodIn_of _ (by decide +kernel)) ggX5_coin_X2_holds
set_option maxRecDepth 20000 in
theorem ggX5_coin_X5_isYear : GoodIn wsX5_coin wsX5_isYear := goodIn_r _ [21] (by decide +kernel) (by decide +kernel)
set_option maxRecDepth 20000 in
theorem gX5_coin_X5_isYear : GoodIn wsX5_coin (va_wsS RX5 103 yX5_isYear wsX5_isYear) := goodIn_app (goodIn_of _ (by decide +kernel)) ggX5_coin_X5_isYear
set_option maxRecDepth 20000 in
theorem ggX5_coin_X5_finding : GoodIn wsX5_coin wsX5_finding := goodIn_r _ [25, 26, 34, 35, 36, 37, 38, 39, 40] (by decide +kernel) (by decide +kernel)
set_option maxRecDepth 20000 in
theorem gX5_coin_X5_finding : GoodIn wsX5_coin (wsV RX5 48 RX5 yX5_finding wsX5_finding) := goodIn_app (goodIn_of _ (by decide +kernel)) ggX5_coin_X5_finding
set_option maxRecDepth 20000 in
theorem ggX5_coin_X1_isOfKind : GoodIn wsX5_coin wsX1_isOfKind := goodIn_r _ [31, 32, 33, 48, 49, 50, 51, 52, 53, 54, 55, 56] (by decide +kernel) (by decide +kernel)
set_option maxRecDepth 20000 in
theorem gX5_coin_X1_isOfKind : GoodIn wsX5_coin (wsV RX5 68 RX1 yX1_isOfKind wsX1_isOfKind) := goodIn_app (goodIn_of _ (by decide +kernel)) ggX5_coin_X1_isOfKind
theorem dX5_coin_0 : decode cX5_coin 0 = .ok (.aload_n 0, 1) := by decide +kernel
theorem dX5_coin_1 : decode cX5_coin 1 = .ok (.getfield 12, 3) := by decide +kernel
theorem dX5_coin_4 : decode cX5_coin 4 = .ok (.iload_n 1, 1) := by decide +kernel
theorem dX5_coin_5 : decode cX5_coin 5 = .ok (.invokevirtual 61, 3) := by decide +kernel
theorem dX5_coin_8 : decode cX5_coin 8 = .ok (.ifCond .eq 10, 3) := by decide +kernel
theorem dX5_coin_11 : decode cX5_coin 11 = .ok (.iload_n 2, 1) := by decide +kernel
theorem dX5_coin_12 : decode cX5_coin 12 = .ok (.invokestatic 103, 3) := by decide +kernel
theorem dX5_coin_15 : decode cX5_coin 15 = .ok (.ifCond .ne 10, 3) := by decide +kernel
theorem dX5_coin_18 : decode cX5_coin 18 = .ok (.aload_n 0, 1) := by decide +kernel
theorem dX5_coin_19 : decode cX5_coin 19 = .ok (.ldc 47, 2) := by decide +kernel
theorem dX5_coin_21 : decode cX5_coin 21 = .ok (.invokevirtual 48, 3) := by decide +kernel
theorem dX5_coin_24 : decode cX5_coin 24 = .ok (.ireturn, 1) := by decide +kernel
theorem dX5_coin_25 : decode cX5_coin 25 = .ok (.aload_n 0, 1) := by decide +kernel
theorem dX5_coin_26 : decode cX5_coin 26 = .ok (.getfield 12, 3) := by decide +kernel
theorem dX5_coin_29 : decode cX5_coin 29 = .ok (.getfield 64, 3) := by decide +kernel
theorem dX5_coin_32 : decode cX5_coin 32 = .ok (.iload_n 1, 1) := by decide +kernel
theorem dX5_coin_33 : decode cX5_coin 33 = .ok (.aaload, 1) := by decide +kernel
theorem dX5_coin_34 : decode cX5_coin 34 = .ok (.astore_n 3, 1) := by decide +kernel
theorem dX5_coin_35 : decode cX5_coin 35 = .ok (.aload_n 3, 1) := by decide +kernel
theorem dX5_coin_36 : decode cX5_coin 36 = .ok (.iconst 3, 1) := by decide +kernel
theorem dX5_coin_37 : decode cX5_coin 37 = .ok (.invokevirtual 68, 3) := by decide +kernel
theorem dX5_coin_40 : decode cX5_coin 40 = .ok (.ifCond .ne 10, 3) := by decide +kernel
theorem dX5_coin_43 : decode cX5_coin 43 = .ok (.aload_n 0, 1) := by decide +kernel
theorem dX5_coin_44 : decode cX5_coin 44 = .ok (.ldc 73, 2) := by decide +kernel
theorem dX5_coin_46 : decode cX5_coin 46 = .ok (.invokevirtual 48, 3) := by decide +kernel
theorem dX5_coin_49 : decode cX5_coin 49 = .ok (.ireturn, 1) := by decide +kernel
theorem dX5_coin_50 : decode cX5_coin 50 = .ok (.iload_n 2, 1) := by decide +kernel
theorem dX5_coin_51 : decode cX5_coin 51 = .ok (.aload_n 3, 1) := by decide +kernel
theorem dX5_coin_52 : decode cX5_coin 52 = .ok (.getfield 89, 3) := by decide +kernel
theorem dX5_coin_55 : decode cX5_coin 55 = .ok (.if_icmp .le 10, 3) := by decide +kernel
theorem dX5_coin_58 : decode cX5_coin 58 = .ok (.aload_n 0, 1) := by decide +kernel
theorem dX5_coin_59 : decode cX5_coin 59 = .ok (.ldc 106, 2) := by decide +kernel
theorem dX5_coin_61 : decode cX5_coin 61 = .ok (.invokevirtual 48, 3) := by decide +kernel
theorem dX5_coin_64 : decode cX5_coin 64 = .ok (.ireturn, 1) := by decide +kernel
theorem dX5_coin_65 : decode cX5_coin 65 = .ok (.aload_n 3, 1) := by decide +kernel
theorem dX5_coin_66 : decode cX5_coin 66 = .ok (.aload_n 3, 1) := by decide +kernel
theorem dX5_coin_67 : decode cX5_coin 67 = .ok (.getfield 86, 3) := by decide +kernel
theorem dX5_coin_70 : decode cX5_coin 70 = .ok (.iload_n 2, 1) := by decide +kernel
theorem dX5_coin_71 : decode cX5_coin 71 = .ok (.invokestatic 107, 3) := by decide +kernel
theorem dX5_coin_74 : decode cX5_coin 74 = .ok (.putfield 86, 3) := by decide +kernel
theorem dX5_coin_77 : decode cX5_coin 77 = .ok (.aload_n 3, 1) := by decide +kernel
theorem dX5_coin_78 : decode cX5_coin 78 = .ok (.getfield 86, 3) := by decide +kernel
theorem dX5_coin_81 : decode cX5_coin 81 = .ok (.ireturn, 1) := by decide +kernel
set_option maxRecDepth 20000 in
theorem ggX5_cut_X2_holds : GoodIn wsX5_cut wsX2_holds := goodIn_r _ [9, 10, 42, 43, 44, 45, 46, 47, 48] (by decide +kernel) (by decide +kernel)
set_option maxRecDepth 20000 in
theorem gX5_cut_X2_holds : GoodIn wsX5_cut (wsV RX5 61 RX2 yX2_holds wsX2_holds) := goodIn_app (goodIn_of _ (by decide +kernel)) ggX5_cut_X2_holds
set_option maxRecDepth 20000 in
theorem ggX5_cut_X5_finding : GoodIn wsX5_cut wsX5_finding := goodIn_r _ [15, 16, 35, 36, 37, 38, 39, 40, 41] (by decide +kernel) (by decide +kernel)
set_option maxRecDepth 20000 in
theorem gX5_cut_X5_finding : GoodIn wsX5_cut (wsV RX5 48 RX5 yX5_finding wsX5_finding) := goodIn_app (goodIn_of _ (by decide +kernel)) ggX5_cut_X5_finding
set_option maxRecDepth 20000 in
theorem ggX5_cut_X2_earlierThan : GoodIn wsX5_cut wsX2_earlierThan := goodIn_r _ [20, 10, 21, 22, 23, 24, 25, 26, 8, 27, 28, 14, 29, 42, 43, 44, 45, 46, 47, 48, 49, 50, 51, 52, 53, 54, 55, 56, 57] (by decide +kernel) (by decide +kernel)
set_option maxRecDepth 20000 in
theorem gX5_cut_X2_earlierThan : GoodIn wsX5_cut (wsV RX5 113 RX2 yX2_earlierThan wsX2_earlierThan) := goodIn_app (goodIn_of _ (by decide +kernel)) ggX5_cut_X2_earlierThan
set_option maxRecDepth 20000 in
theorem ggX5_cut_X5_isIn : GoodIn wsX5_cut wsX5_isIn := goodIn_r _ [29] (by decide +kernel) (by decide +kernel)
set_option maxRecDepth 20000 in
theorem gX5_cut_X5_isIn : GoodIn wsX5_cut (va_wsS RX5 116 yX5_isIn wsX5_isIn) := goodIn_app (goodIn_of _ (by decide +kernel)) ggX5_cut_X5_isIn
set_option maxRecDepth 20000 in
theorem ggX5_cut_X2_setCut : GoodIn wsX5_cut wsX2_setCut := goodIn_r _ [34, 22, 23, 42, 43, 44, 45, 46, 47, 48, 49, 50, 51, 52, 53, 54, 55, 56, 57] (by decide +kernel) (by decide +kernel)
set_option maxRecDepth 20000 in
theorem gX5_cut_X2_setCut : GoodIn wsX5_cut (wsV RX5 121 RX2 yX2_setCut wsX2_setCut) := goodIn_app (goodIn_of _ (by decide +kernel)) ggX5_cut_X2_setCut
theorem dX5_cut_0 : decode cX5_cut 0 = .ok (.aload_n 0, 1) := by decide +kernel
theorem dX5_cut_1 : decode cX5_cut 1 = .ok (.getfield 12, 3) := by decide +kernel
theorem dX5_cut_4 : decode cX5_cut 4 = .ok (.iload_n 1, 1) := by decide +kernel
theorem dX5_cut_5 : decode cX5_cut 5 = .ok (.invokevirtual 61, 3) := by decide +kernel
theorem dX5_cut_8 : decode cX5_cut 8 = .ok (.ifCond .eq 14, 3) := by decide +kernel
theorem dX5_cut_11 : decode cX5_cut 11 = .ok (.aload_n 0, 1) := by decide +kernel
theorem dX5_cut_12 : decode cX5_cut 12 = .ok (.getfield 12, 3) := by decide +kernel
theorem dX5_cut_15 : decode cX5_cut 15 = .ok (.iload_n 2, 1) := by decide +kernel
theorem dX5_cut_16 : decode cX5_cut 16 = .ok (.invokevirtual 61, 3) := by decide +kernel
theorem dX5_cut_19 : decode cX5_cut 19 = .ok (.ifCond .ne 10, 3) := by decide +kernel
theorem dX5_cut_22 : decode cX5_cut 22 = .ok (.aload_n 0, 1) := by decide +kernel
theorem dX5_cut_23 : decode cX5_cut 23 = .ok (.ldc 47, 2) := by decide +kernel
theorem dX5_cut_25 : decode cX5_cut 25 = .ok (.invokevirtual 48, 3) := by decide +kernel
theorem dX5_cut_28 : decode cX5_cut 28 = .ok (.ireturn, 1) := by decide +kernel
theorem dX5_cut_29 : decode cX5_cut 29 = .ok (.iload_n 1, 1) := by decide +kernel
theorem dX5_cut_30 : decode cX5_cut 30 = .ok (.iload_n 2, 1) := by decide +kernel
theorem dX5_cut_31 : decode cX5_cut 31 = .ok (.if_icmp .ne 10, 3) := by decide +kernel
theorem dX5_cut_34 : decode cX5_cut 34 = .ok (.aload_n 0, 1) := by decide +kernel
theorem dX5_cut_35 : decode cX5_cut 35 = .ok (.ldc 106, 2) := by decide +kernel
theorem dX5_cut_37 : decode cX5_cut 37 = .ok (.invokevirtual 48, 3) := by decide +kernel
theorem dX5_cut_40 : decode cX5_cut 40 = .ok (.ireturn, 1) := by decide +kernel
theorem dX5_cut_41 : decode cX5_cut 41 = .ok (.iload_n 3, 1) := by decide +kernel
theorem dX5_cut_42 : decode cX5_cut 42 = .ok (.ifCond .eq 25, 3) := by decide +kernel
theorem dX5_cut_45 : decode cX5_cut 45 = .ok (.aload_n 0, 1) := by decide +kernel
theorem dX5_cut_46 : decode cX5_cut 46 = .ok (.getfield 12, 3) := by decide +kernel
theorem dX5_cut_49 : decode cX5_cut 49 = .ok (.iload_n 2, 1) := by decide +kernel
theorem dX5_cut_50 : decode cX5_cut 50 = .ok (.invokevirtual 113, 3) := by decide +kernel
theorem dX5_cut_53 : decode cX5_cut 53 = .ok (.iload_n 1, 1) := by decide +kernel
theorem dX5_cut_54 : decode cX5_cut 54 = .ok (.invokestatic 116, 3) := by decide +kernel
theorem dX5_cut_57 : decode cX5_cut 57 = .ok (.ifCond .eq 10, 3) := by decide +kernel
theorem dX5_cut_60 : decode cX5_cut 60 = .ok (.aload_n 0, 1) := by decide +kernel
theorem dX5_cut_61 : decode cX5_cut 61 = .ok (.ldc 120, 2) := by decide +kernel
theorem dX5_cut_63 : decode cX5_cut 63 = .ok (.invokevirtual 48, 3) := by decide +kernel
theorem dX5_cut_66 : decode cX5_cut 66 = .ok (.ireturn, 1) := by decide +kernel
theorem dX5_cut_67 : decode cX5_cut 67 = .ok (.aload_n 0, 1) := by decide +kernel
theorem dX5_cut_68 : decode cX5_cut 68 = .ok (.getfield 12, 3) := by decide +kernel
theorem dX5_cut_71 : decode cX5_cut 71 = .ok (.iload_n 1, 1) := by decide +kernel
theorem dX5_cut_72 : decode cX5_cut 72 = .ok (.iload_n 2, 1) := by decide +kernel
theorem dX5_cut_73 : decode cX5_cut 73 = .ok (.iload_n 3, 1) := by decide +kernel
theorem dX5_cut_74 : decode cX5_cut 74 = .ok (.invokevirtual 121, 3) := by decide +kernel
theorem dX5_cut_77 : decode cX5_cut 77 = .ok (.ifCond .eq 7, 3) := by decide +kernel
theorem dX5_cut_80 : decode cX5_cut 80 = .ok (.iconst 1, 1) := by decide +kernel
theorem dX5_cut_81 : decode cX5_cut 81 = .ok (.goto 4, 3) := by decide +kernel
theorem dX5_cut_84 : decode cX5_cut 84 = .ok (.iconst 0, 1) := by decide +kernel
theorem dX5_cut_85 : decode cX5_cut 85 = .ok (.ireturn, 1) := by decide +kernel
set_option maxRecDepth 20000 in
theorem ggX5_later_X2_holds : GoodIn wsX5_later wsX2_holds := goodIn_r _ [7, 8, 36, 37, 38, 39, 40, 41, 42] (by decide +kernel) (by decide +kernel)
set_option maxRecDepth 20000 in
theorem gX5_later_X2_holds : GoodIn wsX5_later (wsV RX5 61 RX2 yX2_holds wsX2_holds) := goodIn_app (goodIn_of _ (by decide +kernel)) ggX5_later_X2_holds
set_option maxRecDepth 20000 in
theorem ggX5_later_X5_finding : GoodIn wsX5_later wsX5_finding := goodIn_r _ [13, 14, 29, 30, 31, 32, 33, 34, 35] (by decide +kernel) (by decide +kernel)
set_option maxRecDepth 20000 in
theorem gX5_later_X5_finding : GoodIn wsX5_later (wsV RX5 48 RX5 yX5_finding wsX5_finding) := goodIn_app (goodIn_of _ (by decide +kernel)) ggX5_later_X5_finding
set_option maxRecDepth 20000 in
theorem ggX5_later_X2_earlierThan : GoodIn wsX5_later wsX2_earlierThan := goodIn_r _ [18, 8, 19, 20, 21, 22, 23, 24, 6, 25, 26, 12, 27, 36, 37, 38, 39, 40, 41, 42, 43, 44, 45, 46, 47, 48, 49, 50, 51] (by decide +kernel) (by decide +kernel)
set_option maxRecDepth 20000 in
theorem gX5_later_X2_earlierThan : GoodIn wsX5_later (wsV RX5 113 RX2 yX2_earlierThan wsX2_earlierThan) := goodIn_app (goodIn_of _ (by decide +kernel)) ggX5_later_X2_earlierThan
set_option maxRecDepth 20000 in
theorem ggX5_later_X5_isIn : GoodIn wsX5_later wsX5_isIn := goodIn_r _ [27] (by decide +kernel) (by decide +kernel)
set_option maxRecDepth 20000 in
theorem gX5_later_X5_isIn : GoodIn wsX5_later (va_wsS RX5 116 yX5_isIn wsX5_isIn) := goodIn_app (goodIn_of _ (by decide +kernel)) ggX5_later_X5_isIn
theorem dX5_later_0 : decode cX5_later 0 = .ok (.aload_n 0, 1) := by decide +kernel
theorem dX5_later_1 : decode cX5_later 1 = .ok (.getfield 12, 3) := by decide +kernel
theorem dX5_later_4 : decode cX5_later 4 = .ok (.iload_n 1, 1) := by decide +kernel
theorem dX5_later_5 : decode cX5_later 5 = .ok (.invokevirtual 61, 3) := by decide +kernel
theorem dX5_later_8 : decode cX5_later 8 = .ok (.ifCond .eq 14, 3) := by decide +kernel
theorem dX5_later_11 : decode cX5_later 11 = .ok (.aload_n 0, 1) := by decide +kernel
theorem dX5_later_12 : decode cX5_later 12 = .ok (.getfield 12, 3) := by decide +kernel
theorem dX5_later_15 : decode cX5_later 15 = .ok (.iload_n 2, 1) := by decide +kernel
theorem dX5_later_16 : decode cX5_later 16 = .ok (.invokevirtual 61, 3) := by decide +kernel
theorem dX5_later_19 : decode cX5_later 19 = .ok (.ifCond .ne 10, 3) := by decide +kernel
theorem dX5_later_22 : decode cX5_later 22 = .ok (.aload_n 0, 1) := by decide +kernel
theorem dX5_later_23 : decode cX5_later 23 = .ok (.ldc 47, 2) := by decide +kernel
theorem dX5_later_25 : decode cX5_later 25 = .ok (.invokevirtual 48, 3) := by decide +kernel
theorem dX5_later_28 : decode cX5_later 28 = .ok (.ireturn, 1) := by decide +kernel
theorem dX5_later_29 : decode cX5_later 29 = .ok (.aload_n 0, 1) := by decide +kernel
theorem dX5_later_30 : decode cX5_later 30 = .ok (.getfield 12, 3) := by decide +kernel
theorem dX5_later_33 : decode cX5_later 33 = .ok (.iload_n 1, 1) := by decide +kernel
theorem dX5_later_34 : decode cX5_later 34 = .ok (.invokevirtual 113, 3) := by decide +kernel
theorem dX5_later_37 : decode cX5_later 37 = .ok (.iload_n 2, 1) := by decide +kernel
theorem dX5_later_38 : decode cX5_later 38 = .ok (.invokestatic 116, 3) := by decide +kernel
theorem dX5_later_41 : decode cX5_later 41 = .ok (.ifCond .eq 7, 3) := by decide +kernel
theorem dX5_later_44 : decode cX5_later 44 = .ok (.iconst 1, 1) := by decide +kernel
theorem dX5_later_45 : decode cX5_later 45 = .ok (.goto 4, 3) := by decide +kernel
theorem dX5_later_48 : decode cX5_later 48 = .ok (.iconst 0, 1) := by decide +kernel
theorem dX5_later_49 : decode cX5_later 49 = .ok (.ireturn, 1) := by decide +kernel
set_option maxRecDepth 20000 in
theorem ggX5_fill_X5_finding : GoodIn wsX5_fill wsX5_finding := goodIn_r _ [8, 9, 18, 19, 20, 21, 22, 23, 24] (by decide +kernel) (by decide +kernel)
set_option maxRecDepth 20000 in
theorem gX5_fill_X5_finding : GoodIn wsX5_fill (wsV RX5 48 RX5 yX5_finding wsX5_finding) := goodIn_app (goodIn_of _ (by decide +kernel)) ggX5_fill_X5_finding
set_option maxRecDepth 20000 in
theorem ggX5_fill_X2_closeLast : GoodIn wsX5_fill wsX2_closeLast := goodIn_r _ [14, 15, 16, 17, 25, 26, 27, 28, 29, 30, 31, 32, 33, 34, 35, 36, 37, 38, 39, 40] (by decide +kernel) (by decide +kernel)
set_option maxRecDepth 20000 in
theorem gX5_fill_X2_closeLast : GoodIn wsX5_fill (wsV RX5 126 RX2 yX2_closeLast wsX2_closeLast) := goodIn_app (goodIn_of _ (by decide +kernel)) ggX5_fill_X2_closeLast
theorem dX5_fill_0 : decode cX5_fill 0 = .ok (.aload_n 0, 1) := by decide +kernel
theorem dX5_fill_1 : decode cX5_fill 1 = .ok (.getfield 12, 3) := by decide +kernel
theorem dX5_fill_4 : decode cX5_fill 4 = .ok (.getfield 52, 3) := by decide +kernel
theorem dX5_fill_7 : decode cX5_fill 7 = .ok (.ifCond .ne 10, 3) := by decide +kernel
theorem dX5_fill_10 : decode cX5_fill 10 = .ok (.aload_n 0, 1) := by decide +kernel
theorem dX5_fill_11 : decode cX5_fill 11 = .ok (.ldc 125, 2) := by decide +kernel
theorem dX5_fill_13 : decode cX5_fill 13 = .ok (.invokevirtual 48, 3) := by decide +kernel
theorem dX5_fill_16 : decode cX5_fill 16 = .ok (.ireturn, 1) := by decide +kernel
theorem dX5_fill_17 : decode cX5_fill 17 = .ok (.aload_n 0, 1) := by decide +kernel
theorem dX5_fill_18 : decode cX5_fill 18 = .ok (.getfield 12, 3) := by decide +kernel
theorem dX5_fill_21 : decode cX5_fill 21 = .ok (.invokevirtual 126, 3) := by decide +kernel
theorem dX5_fill_24 : decode cX5_fill 24 = .ok (.aload_n 0, 1) := by decide +kernel
theorem dX5_fill_25 : decode cX5_fill 25 = .ok (.getfield 12, 3) := by decide +kernel
theorem dX5_fill_28 : decode cX5_fill 28 = .ok (.getfield 52, 3) := by decide +kernel
theorem dX5_fill_31 : decode cX5_fill 31 = .ok (.ireturn, 1) := by decide +kernel
set_option maxRecDepth 20000 in
theorem ggX5_sheet_X5_isSheet : GoodIn wsX5_sheet wsX5_isSheet := goodIn_r _ [8] (by decide +kernel) (by decide +kernel)
set_option maxRecDepth 20000 in
theorem gX5_sheet_X5_isSheet : GoodIn wsX5_sheet (va_wsS RX5 129 yX5_isSheet wsX5_isSheet) := goodIn_app (goodIn_of _ (by decide +kernel)) ggX5_sheet_X5_isSheet
set_option maxRecDepth 20000 in
theorem ggX5_sheet_X5_isWidth : GoodIn wsX5_sheet wsX5_isWidth := goodIn_r _ [11] (by decide +kernel) (by decide +kernel)
set_option maxRecDepth 20000 in
theorem gX5_sheet_X5_isWidth : GoodIn wsX5_sheet (va_wsS RX5 132 yX5_isWidth wsX5_isWidth) := goodIn_app (goodIn_of _ (by decide +kernel)) ggX5_sheet_X5_isWidth
set_option maxRecDepth 20000 in
theorem ggX5_sheet_X5_finding : GoodIn wsX5_sheet wsX5_finding := goodIn_r _ [15, 16, 25, 26, 27, 28, 29, 30, 31] (by decide +kernel) (by decide +kernel)
set_option maxRecDepth 20000 in
theorem gX5_sheet_X5_finding : GoodIn wsX5_sheet (wsV RX5 48 RX5 yX5_finding wsX5_finding) := goodIn_app (goodIn_of _ (by decide +kernel)) ggX5_sheet_X5_finding
set_option maxRecDepth 20000 in
theorem ggX5_sheet_X4_become : GoodIn wsX5_sheet wsX4_become := goodIn_r _ [21, 22, 23, 24, 32, 33, 34] (by decide +kernel) (by decide +kernel)
set_option maxRecDepth 20000 in
theorem gX5_sheet_X4_become : GoodIn wsX5_sheet (wsV RX5 135 RX4 yX4_become wsX4_become) := goodIn_app (goodIn_of _ (by decide +kernel)) ggX5_sheet_X4_become
theorem dX5_sheet_0 : decode cX5_sheet 0 = .ok (.iload_n 1, 1) := by decide +kernel
theorem dX5_sheet_1 : decode cX5_sheet 1 = .ok (.invokestatic 129, 3) := by decide +kernel
theorem dX5_sheet_4 : decode cX5_sheet 4 = .ok (.ifCond .eq 10, 3) := by decide +kernel
theorem dX5_sheet_7 : decode cX5_sheet 7 = .ok (.iload_n 2, 1) := by decide +kernel
theorem dX5_sheet_8 : decode cX5_sheet 8 = .ok (.invokestatic 132, 3) := by decide +kernel
theorem dX5_sheet_11 : decode cX5_sheet 11 = .ok (.ifCond .ne 10, 3) := by decide +kernel
theorem dX5_sheet_14 : decode cX5_sheet 14 = .ok (.aload_n 0, 1) := by decide +kernel
theorem dX5_sheet_15 : decode cX5_sheet 15 = .ok (.ldc 47, 2) := by decide +kernel
theorem dX5_sheet_17 : decode cX5_sheet 17 = .ok (.invokevirtual 48, 3) := by decide +kernel
theorem dX5_sheet_20 : decode cX5_sheet 20 = .ok (.ireturn, 1) := by decide +kernel
theorem dX5_sheet_21 : decode cX5_sheet 21 = .ok (.iload_n 3, 1) := by decide +kernel
theorem dX5_sheet_22 : decode cX5_sheet 22 = .ok (.ifCond .ge 10, 3) := by decide +kernel
theorem dX5_sheet_25 : decode cX5_sheet 25 = .ok (.aload_n 0, 1) := by decide +kernel
theorem dX5_sheet_26 : decode cX5_sheet 26 = .ok (.ldc 106, 2) := by decide +kernel
theorem dX5_sheet_28 : decode cX5_sheet 28 = .ok (.invokevirtual 48, 3) := by decide +kernel
theorem dX5_sheet_31 : decode cX5_sheet 31 = .ok (.ireturn, 1) := by decide +kernel
theorem dX5_sheet_32 : decode cX5_sheet 32 = .ok (.iload_n 3, 1) := by decide +kernel
theorem dX5_sheet_33 : decode cX5_sheet 33 = .ok (.bipush 12, 2) := by decide +kernel
theorem dX5_sheet_35 : decode cX5_sheet 35 = .ok (.if_icmp .le 10, 3) := by decide +kernel
theorem dX5_sheet_38 : decode cX5_sheet 38 = .ok (.aload_n 0, 1) := by decide +kernel
theorem dX5_sheet_39 : decode cX5_sheet 39 = .ok (.ldc 47, 2) := by decide +kernel
theorem dX5_sheet_41 : decode cX5_sheet 41 = .ok (.invokevirtual 48, 3) := by decide +kernel
theorem dX5_sheet_44 : decode cX5_sheet 44 = .ok (.ireturn, 1) := by decide +kernel
theorem dX5_sheet_45 : decode cX5_sheet 45 = .ok (.aload_n 0, 1) := by decide +kernel
theorem dX5_sheet_46 : decode cX5_sheet 46 = .ok (.getfield 21, 3) := by decide +kernel
theorem dX5_sheet_49 : decode cX5_sheet 49 = .ok (.iload_n 1, 1) := by decide +kernel
theorem dX5_sheet_50 : decode cX5_sheet 50 = .ok (.aaload, 1) := by decide +kernel
theorem dX5_sheet_51 : decode cX5_sheet 51 = .ok (.iload_n 2, 1) := by decide +kernel
theorem dX5_sheet_52 : decode cX5_sheet 52 = .ok (.iload_n 3, 1) := by decide +kernel
theorem dX5_sheet_53 : decode cX5_sheet 53 = .ok (.invokevirtual 135, 3) := by decide +kernel
theorem dX5_sheet_56 : decode cX5_sheet 56 = .ok (.aload_n 0, 1) := by decide +kernel
theorem dX5_sheet_57 : decode cX5_sheet 57 = .ok (.getfield 21, 3) := by decide +kernel
theorem dX5_sheet_60 : decode cX5_sheet 60 = .ok (.iload_n 1, 1) := by decide +kernel
theorem dX5_sheet_61 : decode cX5_sheet 61 = .ok (.aaload, 1) := by decide +kernel
theorem dX5_sheet_62 : decode cX5_sheet 62 = .ok (.getfield 139, 3) := by decide +kernel
theorem dX5_sheet_65 : decode cX5_sheet 65 = .ok (.ireturn, 1) := by decide +kernel
set_option maxRecDepth 20000 in
theorem ggX5_put_X5_isSheet : GoodIn wsX5_put wsX5_isSheet := goodIn_r _ [8] (by decide +kernel) (by decide +kernel)
set_option maxRecDepth 20000 in
theorem gX5_put_X5_isSheet : GoodIn wsX5_put (va_wsS RX5 129 yX5_isSheet wsX5_isSheet) := goodIn_app (goodIn_of _ (by decide +kernel)) ggX5_put_X5_isSheet
set_option maxRecDepth 20000 in
theorem ggX5_put_X5_finding : GoodIn wsX5_put wsX5_finding := goodIn_r _ [12, 13, 25, 26, 27, 28, 29, 30, 31] (by decide +kernel) (by decide +kernel)
set_option maxRecDepth 20000 in
theorem gX5_put_X5_finding : GoodIn wsX5_put (wsV RX5 48 RX5 yX5_finding wsX5_finding) := goodIn_app (goodIn_of _ (by decide +kernel)) ggX5_put_X5_finding
set_option maxRecDepth 20000 in
theorem ggX5_put_X4_isMissing : GoodIn wsX5_put wsX4_isMissing := goodIn_r _ [18, 19, 32, 33, 34] (by decide +kernel) (by decide +kernel)
set_option maxRecDepth 20000 in
theorem gX5_put_X4_isMissing : GoodIn wsX5_put (wsV RX5 142 RX4 yX4_isMissing wsX4_isMissing) := goodIn_app (goodIn_of _ (by decide +kernel)) ggX5_put_X4_isMissing
set_option maxRecDepth 20000 in
theorem ggX5_put_X4_write : GoodIn wsX5_put wsX4_write := goodIn_r _ [23, 24, 19, 32, 33, 34] (by decide +kernel) (by decide +kernel)
set_option maxRecDepth 20000 in
theorem gX5_put_X4_write : GoodIn wsX5_put (wsV RX5 147 RX4 yX4_write wsX4_write) := goodIn_app (goodIn_of _ (by decide +kernel)) ggX5_put_X4_write
theorem dX5_put_0 : decode cX5_put 0 = .ok (.iload_n 1, 1) := by decide +kernel
theorem dX5_put_1 : decode cX5_put 1 = .ok (.invokestatic 129, 3) := by decide +kernel
theorem dX5_put_4 : decode cX5_put 4 = .ok (.ifCond .ne 10, 3) := by decide +kernel
theorem dX5_put_7 : decode cX5_put 7 = .ok (.aload_n 0, 1) := by decide +kernel
theorem dX5_put_8 : decode cX5_put 8 = .ok (.ldc 47, 2) := by decide +kernel
theorem dX5_put_10 : decode cX5_put 10 = .ok (.invokevirtual 48, 3) := by decide +kernel
theorem dX5_put_13 : decode cX5_put 13 = .ok (.ireturn, 1) := by decide +kernel
theorem dX5_put_14 : decode cX5_put 14 = .ok (.aload_n 0, 1) := by decide +kernel
theorem dX5_put_15 : decode cX5_put 15 = .ok (.getfield 21, 3) := by decide +kernel
theorem dX5_put_18 : decode cX5_put 18 = .ok (.iload_n 1, 1) := by decide +kernel
theorem dX5_put_19 : decode cX5_put 19 = .ok (.aaload, 1) := by decide +kernel
theorem dX5_put_20 : decode cX5_put 20 = .ok (.invokevirtual 142, 3) := by decide +kernel
theorem dX5_put_23 : decode cX5_put 23 = .ok (.ifCond .eq 10, 3) := by decide +kernel
theorem dX5_put_26 : decode cX5_put 26 = .ok (.aload_n 0, 1) := by decide +kernel
theorem dX5_put_27 : decode cX5_put 27 = .ok (.ldc 146, 2) := by decide +kernel
theorem dX5_put_29 : decode cX5_put 29 = .ok (.invokevirtual 48, 3) := by decide +kernel
theorem dX5_put_32 : decode cX5_put 32 = .ok (.ireturn, 1) := by decide +kernel
theorem dX5_put_33 : decode cX5_put 33 = .ok (.iload_n 2, 1) := by decide +kernel
theorem dX5_put_34 : decode cX5_put 34 = .ok (.ifCond .lt 16, 3) := by decide +kernel
theorem dX5_put_37 : decode cX5_put 37 = .ok (.iload_n 2, 1) := by decide +kernel
theorem dX5_put_38 : decode cX5_put 38 = .ok (.aload_n 0, 1) := by decide +kernel
theorem dX5_put_39 : decode cX5_put 39 = .ok (.getfield 21, 3) := by decide +kernel
theorem dX5_put_42 : decode cX5_put 42 = .ok (.iload_n 1, 1) := by decide +kernel
theorem dX5_put_43 : decode cX5_put 43 = .ok (.aaload, 1) := by decide +kernel
theorem dX5_put_44 : decode cX5_put 44 = .ok (.getfield 139, 3) := by decide +kernel
theorem dX5_put_47 : decode cX5_put 47 = .ok (.if_icmp .lt 10, 3) := by decide +kernel
theorem dX5_put_50 : decode cX5_put 50 = .ok (.aload_n 0, 1) := by decide +kernel
theorem dX5_put_51 : decode cX5_put 51 = .ok (.ldc 47, 2) := by decide +kernel
theorem dX5_put_53 : decode cX5_put 53 = .ok (.invokevirtual 48, 3) := by decide +kernel
theorem dX5_put_56 : decode cX5_put 56 = .ok (.ireturn, 1) := by decide +kernel
theorem dX5_put_57 : decode cX5_put 57 = .ok (.aload_n 0, 1) := by decide +kernel
theorem dX5_put_58 : decode cX5_put 58 = .ok (.getfield 21, 3) := by decide +kernel
theorem dX5_put_61 : decode cX5_put 61 = .ok (.iload_n 1, 1) := by decide +kernel
theorem dX5_put_62 : decode cX5_put 62 = .ok (.aaload, 1) := by decide +kernel
theorem dX5_put_63 : decode cX5_put 63 = .ok (.iload_n 2, 1) := by decide +kernel
theorem dX5_put_64 : decode cX5_put 64 = .ok (.iload_n 3, 1) := by decide +kernel
theorem dX5_put_65 : decode cX5_put 65 = .ok (.invokevirtual 147, 3) := by decide +kernel
theorem dX5_put_68 : decode cX5_put 68 = .ok (.iconst 0, 1) := by decide +kernel
theorem dX5_put_69 : decode cX5_put 69 = .ok (.ireturn, 1) := by decide +kernel
set_option maxRecDepth 20000 in
theorem ggX5_copy_X5_isSheet : GoodIn wsX5_copy wsX5_isSheet := goodIn_r _ [14] (by decide +kernel) (by decide +kernel)
set_option maxRecDepth 20000 in
theorem gX5_copy_X5_isSheet : GoodIn wsX5_copy (va_wsS RX5 129 yX5_isSheet wsX5_isSheet) := goodIn_app (goodIn_of _ (by decide +kernel)) ggX5_copy_X5_isSheet
set_option maxRecDepth 20000 in
theorem ggX5_copy_X5_finding : GoodIn wsX5_copy wsX5_finding := goodIn_r _ [18, 19, 31, 32, 33, 34, 35, 36, 37] (by decide +kernel) (by decide +kernel)
set_option maxRecDepth 20000 in
theorem gX5_copy_X5_finding : GoodIn wsX5_copy (wsV RX5 48 RX5 yX5_finding wsX5_finding) := goodIn_app (goodIn_of _ (by decide +kernel)) ggX5_copy_X5_finding
set_option maxRecDepth 20000 in
theorem ggX5_copy_X4_isMissing : GoodIn wsX5_copy wsX4_isMissing := goodIn_r _ [24, 25, 38, 39, 40] (by decide +kernel) (by decide +kernel)
set_option maxRecDepth 20000 in
theorem gX5_copy_X4_isMissing : GoodIn wsX5_copy (wsV RX5 142 RX4 yX4_isMissing wsX4_isMissing) := goodIn_app (goodIn_of _ (by decide +kernel)) ggX5_copy_X4_isMissing
set_option maxRecDepth 20000 in
theorem ggX5_copy_X4_hasStretch : GoodIn wsX5_copy wsX4_hasStretch := goodIn_r _ [29, 30, 38, 39, 40] (by decide +kernel) (by decide +kernel)
set_option maxRecDepth 20000 in
theorem gX5_copy_X4_hasStretch : GoodIn wsX5_copy (wsV RX5 153 RX4 yX4_hasStretch wsX4_hasStretch) := goodIn_app (goodIn_of _ (by decide +kernel)) ggX5_copy_X4_hasStretch
theorem dX5_copy_0 : decode cX5_copy 0 = .ok (.iload_n 1, 1) := by decide +kernel
theorem dX5_copy_1 : decode cX5_copy 1 = .ok (.invokestatic 129, 3) := by decide +kernel
theorem dX5_copy_4 : decode cX5_copy 4 = .ok (.ifCond .eq 10, 3) := by decide +kernel
theorem dX5_copy_7 : decode cX5_copy 7 = .ok (.iload_n 3, 1) := by decide +kernel
theorem dX5_copy_8 : decode cX5_copy 8 = .ok (.invokestatic 129, 3) := by decide +kernel
theorem dX5_copy_11 : decode cX5_copy 11 = .ok (.ifCond .ne 10, 3) := by decide +kernel
theorem dX5_copy_14 : decode cX5_copy 14 = .ok (.aload_n 0, 1) := by decide +kernel
theorem dX5_copy_15 : decode cX5_copy 15 = .ok (.ldc 47, 2) := by decide +kernel
theorem dX5_copy_17 : decode cX5_copy 17 = .ok (.invokevirtual 48, 3) := by decide +kernel
theorem dX5_copy_20 : decode cX5_copy 20 = .ok (.ireturn, 1) := by decide +kernel
theorem dX5_copy_21 : decode cX5_copy 21 = .ok (.aload_n 0, 1) := by decide +kernel
theorem dX5_copy_22 : decode cX5_copy 22 = .ok (.getfield 21, 3) := by decide +kernel
theorem dX5_copy_25 : decode cX5_copy 25 = .ok (.iload_n 1, 1) := by decide +kernel
theorem dX5_copy_26 : decode cX5_copy 26 = .ok (.aaload, 1) := by decide +kernel
theorem dX5_copy_27 : decode cX5_copy 27 = .ok (.astore 6, 2) := by decide +kernel
theorem dX5_copy_29 : decode cX5_copy 29 = .ok (.aload_n 0, 1) := by decide +kernel
theorem dX5_copy_30 : decode cX5_copy 30 = .ok (.getfield 21, 3) := by decide +kernel
theorem dX5_copy_33 : decode cX5_copy 33 = .ok (.iload_n 3, 1) := by decide +kernel
theorem dX5_copy_34 : decode cX5_copy 34 = .ok (.aaload, 1) := by decide +kernel
theorem dX5_copy_35 : decode cX5_copy 35 = .ok (.astore 7, 2) := by decide +kernel
theorem dX5_copy_37 : decode cX5_copy 37 = .ok (.aload 6, 2) := by decide +kernel
theorem dX5_copy_39 : decode cX5_copy 39 = .ok (.invokevirtual 142, 3) := by decide +kernel
theorem dX5_copy_42 : decode cX5_copy 42 = .ok (.ifCond .ne 11, 3) := by decide +kernel
theorem dX5_copy_45 : decode cX5_copy 45 = .ok (.aload 7, 2) := by decide +kernel
theorem dX5_copy_47 : decode cX5_copy 47 = .ok (.invokevirtual 142, 3) := by decide +kernel
theorem dX5_copy_50 : decode cX5_copy 50 = .ok (.ifCond .eq 10, 3) := by decide +kernel
theorem dX5_copy_53 : decode cX5_copy 53 = .ok (.aload_n 0, 1) := by decide +kernel
theorem dX5_copy_54 : decode cX5_copy 54 = .ok (.ldc 146, 2) := by decide +kernel
theorem dX5_copy_56 : decode cX5_copy 56 = .ok (.invokevirtual 48, 3) := by decide +kernel
theorem dX5_copy_59 : decode cX5_copy 59 = .ok (.ireturn, 1) := by decide +kernel
theorem dX5_copy_60 : decode cX5_copy 60 = .ok (.aload 6, 2) := by decide +kernel
theorem dX5_copy_62 : decode cX5_copy 62 = .ok (.getfield 150, 3) := by decide +kernel
theorem dX5_copy_65 : decode cX5_copy 65 = .ok (.aload 7, 2) := by decide +kernel
theorem dX5_copy_67 : decode cX5_copy 67 = .ok (.getfield 150, 3) := by decide +kernel
theorem dX5_copy_70 : decode cX5_copy 70 = .ok (.if_icmp .eq 10, 3) := by decide +kernel
theorem dX5_copy_73 : decode cX5_copy 73 = .ok (.aload_n 0, 1) := by decide +kernel
theorem dX5_copy_74 : decode cX5_copy 74 = .ok (.ldc 73, 2) := by decide +kernel
theorem dX5_copy_76 : decode cX5_copy 76 = .ok (.invokevirtual 48, 3) := by decide +kernel
theorem dX5_copy_79 : decode cX5_copy 79 = .ok (.ireturn, 1) := by decide +kernel
theorem dX5_copy_80 : decode cX5_copy 80 = .ok (.aload 6, 2) := by decide +kernel
theorem dX5_copy_82 : decode cX5_copy 82 = .ok (.iload_n 2, 1) := by decide +kernel
theorem dX5_copy_83 : decode cX5_copy 83 = .ok (.iload 5, 2) := by decide +kernel
theorem dX5_copy_85 : decode cX5_copy 85 = .ok (.invokevirtual 153, 3) := by decide +kernel
theorem dX5_copy_88 : decode cX5_copy 88 = .ok (.ifCond .eq 15, 3) := by decide +kernel
theorem dX5_copy_91 : decode cX5_copy 91 = .ok (.aload 7, 2) := by decide +kernel
theorem dX5_copy_93 : decode cX5_copy 93 = .ok (.iload 4, 2) := by decide +kernel
theorem dX5_copy_95 : decode cX5_copy 95 = .ok (.iload 5, 2) := by decide +kernel
theorem dX5_copy_97 : decode cX5_copy 97 = .ok (.invokevirtual 153, 3) := by decide +kernel
theorem dX5_copy_100 : decode cX5_copy 100 = .ok (.ifCond .ne 10, 3) := by decide +kernel
theorem dX5_copy_103 : decode cX5_copy 103 = .ok (.aload_n 0, 1) := by decide +kernel
theorem dX5_copy_104 : decode cX5_copy 104 = .ok (.ldc 47, 2) := by decide +kernel
theorem dX5_copy_106 : decode cX5_copy 106 = .ok (.invokevirtual 48, 3) := by decide +kernel
theorem dX5_copy_109 : decode cX5_copy 109 = .ok (.ireturn, 1) := by decide +kernel
theorem dX5_copy_110 : decode cX5_copy 110 = .ok (.aload 6, 2) := by decide +kernel
theorem dX5_copy_112 : decode cX5_copy 112 = .ok (.getfield 156, 3) := by decide +kernel
theorem dX5_copy_115 : decode cX5_copy 115 = .ok (.iload_n 2, 1) := by decide +kernel
theorem dX5_copy_116 : decode cX5_copy 116 = .ok (.aload 7, 2) := by decide +kernel
theorem dX5_copy_118 : decode cX5_copy 118 = .ok (.getfield 156, 3) := by decide +kernel
theorem dX5_copy_121 : decode cX5_copy 121 = .ok (.iload 4, 2) := by decide +kernel
theorem dX5_copy_123 : decode cX5_copy 123 = .ok (.iload 5, 2) := by decide +kernel
theorem dX5_copy_125 : decode cX5_copy 125 = .ok (.invokestatic 160, 3) := by decide +kernel
theorem dX5_copy_128 : decode cX5_copy 128 = .ok (.iload 5, 2) := by decide +kernel
theorem dX5_copy_130 : decode cX5_copy 130 = .ok (.ireturn, 1) := by decide +kernel
set_option maxRecDepth 20000 in
theorem ggX5_read_X2_holds : GoodIn wsX5_read wsX2_holds := goodIn_r _ [11, 12, 48, 49, 50, 51, 52, 53, 54] (by decide +kernel) (by decide +kernel)
set_option maxRecDepth 20000 in
theorem gX5_read_X2_holds : GoodIn wsX5_read (wsV RX5 61 RX2 yX2_holds wsX2_holds) := goodIn_app (goodIn_of _ (by decide +kernel)) ggX5_read_X2_holds
set_option maxRecDepth 20000 in
theorem ggX5_read_X5_isSheet : GoodIn wsX5_read wsX5_isSheet := goodIn_r _ [16] (by decide +kernel) (by decide +kernel)
set_option maxRecDepth 20000 in
theorem gX5_read_X5_isSheet : GoodIn wsX5_read (va_wsS RX5 129 yX5_isSheet wsX5_isSheet) := goodIn_app (goodIn_of _ (by decide +kernel)) ggX5_read_X5_isSheet
set_option maxRecDepth 20000 in
theorem ggX5_read_X5_finding : GoodIn wsX5_read wsX5_finding := goodIn_r _ [20, 21, 41, 42, 43, 44, 45, 46, 47] (by decide +kernel) (by decide +kernel)
set_option maxRecDepth 20000 in
theorem gX5_read_X5_finding : GoodIn wsX5_read (wsV RX5 48 RX5 yX5_finding wsX5_finding) := goodIn_app (goodIn_of _ (by decide +kernel)) ggX5_read_X5_finding
set_option maxRecDepth 20000 in
theorem ggX5_read_X4_isMissing : GoodIn wsX5_read wsX4_isMissing := goodIn_r _ [26, 27, 64, 65, 66] (by decide +kernel) (by decide +kernel)
set_option maxRecDepth 20000 in
theorem gX5_read_X4_isMissing : GoodIn wsX5_read (wsV RX5 142 RX4 yX4_isMissing wsX4_isMissing) := goodIn_app (goodIn_of _ (by decide +kernel)) ggX5_read_X4_isMissing
set_option maxRecDepth 20000 in
theorem ggX5_read_X4_goodsReadInto : GoodIn wsX5_read wsX4_goodsReadInto := goodIn_r _ [31, 32, 33, 64, 65, 66] (by decide +kernel) (by decide +kernel)
set_option maxRecDepth 20000 in
theorem gX5_read_X4_goodsReadInto : GoodIn wsX5_read (wsV RX5 166 RX4 yX4_goodsReadInto wsX4_goodsReadInto) := goodIn_app (goodIn_of _ (by decide +kernel)) ggX5_read_X4_goodsReadInto
set_option maxRecDepth 20000 in
theorem ggX5_read_J6_bitCount_0f7a4 : GoodIn wsX5_read wsJ6_bitCount_0f7a4 := goodIn_r _ [37, 38, 39, 40] (by decide +kernel) (by decide +kernel)
set_option maxRecDepth 20000 in
theorem gX5_read_J6_bitCount_0f7a4 : GoodIn wsX5_read (va_wsS RX5 95 yJ6_bitCount_0f7a4 wsJ6_bitCount_0f7a4) := goodIn_app (goodIn_of _ (by decide +kernel)) ggX5_read_J6_bitCount_0f7a4
theorem dX5_read_0 : decode cX5_read 0 = .ok (.aload_n 0, 1) := by decide +kernel
theorem dX5_read_1 : decode cX5_read 1 = .ok (.getfield 12, 3) := by decide +kernel
theorem dX5_read_4 : decode cX5_read 4 = .ok (.iload_n 1, 1) := by decide +kernel
theorem dX5_read_5 : decode cX5_read 5 = .ok (.invokevirtual 61, 3) := by decide +kernel
theorem dX5_read_8 : decode cX5_read 8 = .ok (.ifCond .eq 10, 3) := by decide +kernel
theorem dX5_read_11 : decode cX5_read 11 = .ok (.iload_n 2, 1) := by decide +kernel
theorem dX5_read_12 : decode cX5_read 12 = .ok (.invokestatic 129, 3) := by decide +kernel
theorem dX5_read_15 : decode cX5_read 15 = .ok (.ifCond .ne 10, 3) := by decide +kernel
theorem dX5_read_18 : decode cX5_read 18 = .ok (.aload_n 0, 1) := by decide +kernel
theorem dX5_read_19 : decode cX5_read 19 = .ok (.ldc 47, 2) := by decide +kernel
theorem dX5_read_21 : decode cX5_read 21 = .ok (.invokevirtual 48, 3) := by decide +kernel
theorem dX5_read_24 : decode cX5_read 24 = .ok (.ireturn, 1) := by decide +kernel
theorem dX5_read_25 : decode cX5_read 25 = .ok (.aload_n 0, 1) := by decide +kernel
theorem dX5_read_26 : decode cX5_read 26 = .ok (.getfield 21, 3) := by decide +kernel
theorem dX5_read_29 : decode cX5_read 29 = .ok (.iload_n 2, 1) := by decide +kernel
theorem dX5_read_30 : decode cX5_read 30 = .ok (.aaload, 1) := by decide +kernel
theorem dX5_read_31 : decode cX5_read 31 = .ok (.invokevirtual 142, 3) := by decide +kernel
theorem dX5_read_34 : decode cX5_read 34 = .ok (.ifCond .eq 10, 3) := by decide +kernel
theorem dX5_read_37 : decode cX5_read 37 = .ok (.aload_n 0, 1) := by decide +kernel
theorem dX5_read_38 : decode cX5_read 38 = .ok (.ldc 146, 2) := by decide +kernel
theorem dX5_read_40 : decode cX5_read 40 = .ok (.invokevirtual 48, 3) := by decide +kernel
theorem dX5_read_43 : decode cX5_read 43 = .ok (.ireturn, 1) := by decide +kernel
theorem dX5_read_44 : decode cX5_read 44 = .ok (.aload_n 0, 1) := by decide +kernel
theorem dX5_read_45 : decode cX5_read 45 = .ok (.getfield 12, 3) := by decide +kernel
theorem dX5_read_48 : decode cX5_read 48 = .ok (.getfield 64, 3) := by decide +kernel
theorem dX5_read_51 : decode cX5_read 51 = .ok (.iload_n 1, 1) := by decide +kernel
theorem dX5_read_52 : decode cX5_read 52 = .ok (.aaload, 1) := by decide +kernel
theorem dX5_read_53 : decode cX5_read 53 = .ok (.astore_n 3, 1) := by decide +kernel
theorem dX5_read_54 : decode cX5_read 54 = .ok (.aload_n 3, 1) := by decide +kernel
theorem dX5_read_55 : decode cX5_read 55 = .ok (.aload_n 0, 1) := by decide +kernel
theorem dX5_read_56 : decode cX5_read 56 = .ok (.getfield 21, 3) := by decide +kernel
theorem dX5_read_59 : decode cX5_read 59 = .ok (.iload_n 2, 1) := by decide +kernel
theorem dX5_read_60 : decode cX5_read 60 = .ok (.aaload, 1) := by decide +kernel
theorem dX5_read_61 : decode cX5_read 61 = .ok (.aload_n 3, 1) := by decide +kernel
theorem dX5_read_62 : decode cX5_read 62 = .ok (.getfield 74, 3) := by decide +kernel
theorem dX5_read_65 : decode cX5_read 65 = .ok (.invokevirtual 166, 3) := by decide +kernel
theorem dX5_read_68 : decode cX5_read 68 = .ok (.putfield 74, 3) := by decide +kernel
theorem dX5_read_71 : decode cX5_read 71 = .ok (.aload_n 3, 1) := by decide +kernel
theorem dX5_read_72 : decode cX5_read 72 = .ok (.getfield 74, 3) := by decide +kernel
theorem dX5_read_75 : decode cX5_read 75 = .ok (.invokestatic 95, 3) := by decide +kernel
theorem dX5_read_78 : decode cX5_read 78 = .ok (.ireturn, 1) := by decide +kernel
set_option maxRecDepth 20000 in
theorem ggX5_order_X5_orderHindrance : GoodIn wsX5_order wsX5_orderHindrance := goodIn_r _ [7, 2, 8, 9, 10, 91, 92, 93, 94, 95, 96, 97, 98, 99, 100, 101, 102, 103, 104] (by decide +kernel) (by decide +kernel)
set_option maxRecDepth 20000 in
theorem gX5_order_X5_orderHindrance : GoodIn wsX5_order (wsV RX5 169 RX5 yX5_orderHindrance wsX5_orderHindrance) := goodIn_app (goodIn_of _ (by decide +kernel)) ggX5_order_X5_orderHindrance
set_option maxRecDepth 20000 in
theorem ggX5_order_X5_finding : GoodIn wsX5_order wsX5_finding := goodIn_r _ [14, 15, 91, 92, 93, 94, 95, 96, 97] (by decide +kernel) (by decide +kernel)
set_option maxRecDepth 20000 in
theorem gX5_order_X5_finding : GoodIn wsX5_order (wsV RX5 48 RX5 yX5_finding wsX5_finding) := goodIn_app (goodIn_of _ (by decide +kernel)) ggX5_order_X5_finding
set_option maxRecDepth 20000 in
theorem ggX5_order_X3_solve : GoodIn wsX5_order wsX3_solve := goodIn_r _ [20, 21, 22, 23, 19, 24, 25, 26, 27, 28, 29, 30, 31, 32, 33, 34, 35, 36, 37, 38, 39, 40, 41, 42, 43, 44, 45, 46, 47, 48, 49, 50, 51, 52, 53, 54, 55, 56, 57, 58, 59, 60, 61, 62, 63, 64, 65, 66, 67, 68, 69, 6, 70, 71, 72, 73, 74, 75, 76, 77, 78, 79, 80, 81, 82, 83, 84, 85, 86, 105, 106, 107, 108, 109, 110, 111, 112, 98, 99, 100, 101, 102, 103, 104, 113, 114, 115, 116, 117, 118, 119, 120, 121] (by decide +kernel) (by decide +kernel)
set_option maxRecDepth 20000 in
theorem gX5_order_X3_solve : GoodIn wsX5_order (wsV RX5 173 RX3 yX3_solve wsX3_solve) := goodIn_app (goodIn_of _ (by decide +kernel)) ggX5_order_X3_solve
set_option maxRecDepth 20000 in
theorem ggX5_order_X3_leastCost : GoodIn wsX5_order wsX3_leastCost := goodIn_r _ [90, 58, 105, 106, 107, 108, 109, 110, 111, 112] (by decide +kernel) (by decide +kernel)
set_option maxRecDepth 20000 in
theorem gX5_order_X3_leastCost : GoodIn wsX5_order (wsV RX5 177 RX3 yX3_leastCost wsX3_leastCost) := goodIn_app (goodIn_of _ (by decide +kernel)) ggX5_order_X3_leastCost
theorem dX5_order_0 : decode cX5_order 0 = .ok (.aload_n 0, 1) := by decide +kernel
theorem dX5_order_1 : decode cX5_order 1 = .ok (.invokevirtual 169, 3) := by decide +kernel
theorem dX5_order_4 : decode cX5_order 4 = .ok (.istore_n 1, 1) := by decide +kernel
theorem dX5_order_5 : decode cX5_order 5 = .ok (.iload_n 1, 1) := by decide +kernel
theorem dX5_order_6 : decode cX5_order 6 = .ok (.ifCond .eq 9, 3) := by decide +kernel
theorem dX5_order_9 : decode cX5_order 9 = .ok (.aload_n 0, 1) := by decide +kernel
theorem dX5_order_10 : decode cX5_order 10 = .ok (.iload_n 1, 1) := by decide +kernel
theorem dX5_order_11 : decode cX5_order 11 = .ok (.invokevirtual 48, 3) := by decide +kernel
theorem dX5_order_14 : decode cX5_order 14 = .ok (.ireturn, 1) := by decide +kernel
theorem dX5_order_15 : decode cX5_order 15 = .ok (.aload_n 0, 1) := by decide +kernel
theorem dX5_order_16 : decode cX5_order 16 = .ok (.getfield 29, 3) := by decide +kernel
theorem dX5_order_19 : decode cX5_order 19 = .ok (.aload_n 0, 1) := by decide +kernel
theorem dX5_order_20 : decode cX5_order 20 = .ok (.getfield 12, 3) := by decide +kernel
theorem dX5_order_23 : decode cX5_order 23 = .ok (.sipush 4095, 3) := by decide +kernel
theorem dX5_order_26 : decode cX5_order 26 = .ok (.invokevirtual 173, 3) := by decide +kernel
theorem dX5_order_29 : decode cX5_order 29 = .ok (.aload_n 0, 1) := by decide +kernel
theorem dX5_order_30 : decode cX5_order 30 = .ok (.getfield 29, 3) := by decide +kernel
theorem dX5_order_33 : decode cX5_order 33 = .ok (.invokevirtual 177, 3) := by decide +kernel
theorem dX5_order_36 : decode cX5_order 36 = .ok (.ireturn, 1) := by decide +kernel
set_option maxRecDepth 20000 in
theorem ggX5_at_X5_orderHindrance : GoodIn wsX5_at wsX5_orderHindrance := goodIn_r _ [10, 1, 2, 11, 12, 89, 90, 91, 92, 93, 94, 95, 96, 97, 98, 99, 100, 101, 102] (by decide +kernel) (by decide +kernel)
set_option maxRecDepth 20000 in
theorem gX5_at_X5_orderHindrance : GoodIn wsX5_at (wsV RX5 169 RX5 yX5_orderHindrance wsX5_orderHindrance) := goodIn_app (goodIn_of _ (by decide +kernel)) ggX5_at_X5_orderHindrance
set_option maxRecDepth 20000 in
theorem ggX5_at_X5_finding : GoodIn wsX5_at wsX5_finding := goodIn_r _ [16, 17, 89, 90, 91, 92, 93, 94, 95] (by decide +kernel) (by decide +kernel)
set_option maxRecDepth 20000 in
theorem gX5_at_X5_finding : GoodIn wsX5_at (wsV RX5 48 RX5 yX5_finding wsX5_finding) := goodIn_app (goodIn_of _ (by decide +kernel)) ggX5_at_X5_finding
set_option maxRecDepth 20000 in
theorem ggX5_at_X3_solve : GoodIn wsX5_at wsX3_solve := goodIn_r _ [22, 23, 24, 25, 21, 26, 27, 28, 29, 30, 31, 32, 33, 34, 35, 36, 37, 38, 39, 40, 41, 42, 43, 44, 45, 46, 47, 48, 49, 50, 51, 52, 53, 54, 55, 56, 57, 58, 59, 60, 61, 62, 63, 64, 65, 66, 67, 68, 69, 70, 71, 9, 72, 73, 74, 75, 76, 77, 78, 79, 80, 81, 82, 83, 84, 85, 86, 87, 88, 103, 104, 105, 106, 107, 108, 109, 110, 96, 97, 98, 99, 100, 101, 102, 111, 112, 113, 114, 115, 116, 117, 118, 119] (by decide +kernel) (by decide +kernel)
set_option maxRecDepth 20000 in
theorem gX5_at_X3_solve : GoodIn wsX5_at (wsV RX5 173 RX3 yX3_solve wsX3_solve) := goodIn_app (goodIn_of _ (by decide +kernel)) ggX5_at_X3_solve
theorem dX5_at_0 : decode cX5_at 0 = .ok (.aload_n 0, 1) := by decide +kernel
theorem dX5_at_1 : decode cX5_at 1 = .ok (.invokevirtual 169, 3) := by decide +kernel
theorem dX5_at_4 : decode cX5_at 4 = .ok (.istore_n 2, 1) := by decide +kernel
theorem dX5_at_5 : decode cX5_at 5 = .ok (.iload_n 2, 1) := by decide +kernel
theorem dX5_at_6 : decode cX5_at 6 = .ok (.ifCond .eq 9, 3) := by decide +kernel
theorem dX5_at_9 : decode cX5_at 9 = .ok (.aload_n 0, 1) := by decide +kernel
theorem dX5_at_10 : decode cX5_at 10 = .ok (.iload_n 2, 1) := by decide +kernel
theorem dX5_at_11 : decode cX5_at 11 = .ok (.invokevirtual 48, 3) := by decide +kernel
theorem dX5_at_14 : decode cX5_at 14 = .ok (.ireturn, 1) := by decide +kernel
theorem dX5_at_15 : decode cX5_at 15 = .ok (.iload_n 1, 1) := by decide +kernel
theorem dX5_at_16 : decode cX5_at 16 = .ok (.ifCond .lt 14, 3) := by decide +kernel
theorem dX5_at_19 : decode cX5_at 19 = .ok (.iload_n 1, 1) := by decide +kernel
theorem dX5_at_20 : decode cX5_at 20 = .ok (.aload_n 0, 1) := by decide +kernel
theorem dX5_at_21 : decode cX5_at 21 = .ok (.getfield 12, 3) := by decide +kernel
theorem dX5_at_24 : decode cX5_at 24 = .ok (.getfield 52, 3) := by decide +kernel
theorem dX5_at_27 : decode cX5_at 27 = .ok (.if_icmp .lt 10, 3) := by decide +kernel
theorem dX5_at_30 : decode cX5_at 30 = .ok (.aload_n 0, 1) := by decide +kernel
theorem dX5_at_31 : decode cX5_at 31 = .ok (.ldc 47, 2) := by decide +kernel
theorem dX5_at_33 : decode cX5_at 33 = .ok (.invokevirtual 48, 3) := by decide +kernel
theorem dX5_at_36 : decode cX5_at 36 = .ok (.ireturn, 1) := by decide +kernel
theorem dX5_at_37 : decode cX5_at 37 = .ok (.aload_n 0, 1) := by decide +kernel
theorem dX5_at_38 : decode cX5_at 38 = .ok (.getfield 29, 3) := by decide +kernel
theorem dX5_at_41 : decode cX5_at 41 = .ok (.aload_n 0, 1) := by decide +kernel
theorem dX5_at_42 : decode cX5_at 42 = .ok (.getfield 12, 3) := by decide +kernel
theorem dX5_at_45 : decode cX5_at 45 = .ok (.sipush 4095, 3) := by decide +kernel
theorem dX5_at_48 : decode cX5_at 48 = .ok (.invokevirtual 173, 3) := by decide +kernel
theorem dX5_at_51 : decode cX5_at 51 = .ok (.aload_n 0, 1) := by decide +kernel
theorem dX5_at_52 : decode cX5_at 52 = .ok (.getfield 29, 3) := by decide +kernel
theorem dX5_at_55 : decode cX5_at 55 = .ok (.getfield 180, 3) := by decide +kernel
theorem dX5_at_58 : decode cX5_at 58 = .ok (.iload_n 1, 1) := by decide +kernel
theorem dX5_at_59 : decode cX5_at 59 = .ok (.iaload, 1) := by decide +kernel
theorem dX5_at_60 : decode cX5_at 60 = .ok (.ireturn, 1) := by decide +kernel
set_option maxRecDepth 20000 in
theorem ggX5_holes_X5_isGood : GoodIn wsX5_holes wsX5_isGood := goodIn_r _ [7] (by decide +kernel) (by decide +kernel)
set_option maxRecDepth 20000 in
theorem gX5_holes_X5_isGood : GoodIn wsX5_holes (va_wsS RX5 183 yX5_isGood wsX5_isGood) := goodIn_app (goodIn_of _ (by decide +kernel)) ggX5_holes_X5_isGood
set_option maxRecDepth 20000 in
theorem ggX5_holes_X5_finding : GoodIn wsX5_holes wsX5_finding := goodIn_r _ [11, 12, 103, 104, 105, 106, 107, 108, 109] (by decide +kernel) (by decide +kernel)
set_option maxRecDepth 20000 in
theorem gX5_holes_X5_finding : GoodIn wsX5_holes (wsV RX5 48 RX5 yX5_finding wsX5_finding) := goodIn_app (goodIn_of _ (by decide +kernel)) ggX5_holes_X5_finding
set_option maxRecDepth 20000 in
theorem ggX5_holes_X5_orderHindrance : GoodIn wsX5_holes wsX5_orderHindrance := goodIn_r _ [16, 3, 17, 18, 19, 103, 104, 105, 106, 107, 108, 109, 110, 111, 112, 113, 114, 115, 116] (by decide +kernel) (by decide +kernel)
set_option maxRecDepth 20000 in
theorem gX5_holes_X5_orderHindrance : GoodIn wsX5_holes (wsV RX5 169 RX5 yX5_orderHindrance wsX5_orderHindrance) := goodIn_app (goodIn_of _ (by decide +kernel)) ggX5_holes_X5_orderHindrance
set_option maxRecDepth 20000 in
theorem ggX5_holes_X3_solve : GoodIn wsX5_holes wsX3_solve := goodIn_r _ [24, 25, 26, 27, 23, 28, 29, 30, 31, 32, 33, 34, 35, 36, 37, 38, 39, 40, 41, 42, 43, 44, 45, 46, 47, 48, 49, 50, 51, 52, 53, 54, 55, 56, 57, 58, 59, 60, 61, 62, 63, 64, 65, 66, 67, 68, 69, 70, 71, 72, 73, 6, 74, 75, 76, 77, 78, 79, 80, 81, 82, 83, 84, 85, 86, 87, 88, 89, 90, 117, 118, 119, 120, 121, 122, 123, 124, 110, 111, 112, 113, 114, 115, 116, 125, 126, 127, 128, 129, 130, 131, 132, 133] (by decide +kernel) (by decide +kernel)
set_option maxRecDepth 20000 in
theorem gX5_holes_X3_solve : GoodIn wsX5_holes (wsV RX5 173 RX3 yX3_solve wsX3_solve) := goodIn_app (goodIn_of _ (by decide +kernel)) ggX5_holes_X3_solve
set_option maxRecDepth 20000 in
theorem ggX5_holes_X3_holesOf : GoodIn wsX5_holes wsX3_holesOf := goodIn_r _ [94, 38, 90, 95, 96, 97, 23, 98, 29, 37, 73, 6, 74, 99, 100, 101, 102, 117, 118, 119, 120, 121, 122, 123, 124] (by decide +kernel) (by decide +kernel)
set_option maxRecDepth 20000 in
theorem gX5_holes_X3_holesOf : GoodIn wsX5_holes (wsV RX5 186 RX3 yX3_holesOf wsX3_holesOf) := goodIn_app (goodIn_of _ (by decide +kernel)) ggX5_holes_X3_holesOf
theorem dX5_holes_0 : decode cX5_holes 0 = .ok (.iload_n 1, 1) := by decide +kernel
theorem dX5_holes_1 : decode cX5_holes 1 = .ok (.invokestatic 183, 3) := by decide +kernel
theorem dX5_holes_4 : decode cX5_holes 4 = .ok (.ifCond .ne 10, 3) := by decide +kernel
theorem dX5_holes_7 : decode cX5_holes 7 = .ok (.aload_n 0, 1) := by decide +kernel
theorem dX5_holes_8 : decode cX5_holes 8 = .ok (.ldc 47, 2) := by decide +kernel
theorem dX5_holes_10 : decode cX5_holes 10 = .ok (.invokevirtual 48, 3) := by decide +kernel
theorem dX5_holes_13 : decode cX5_holes 13 = .ok (.ireturn, 1) := by decide +kernel
theorem dX5_holes_14 : decode cX5_holes 14 = .ok (.aload_n 0, 1) := by decide +kernel
theorem dX5_holes_15 : decode cX5_holes 15 = .ok (.invokevirtual 169, 3) := by decide +kernel
theorem dX5_holes_18 : decode cX5_holes 18 = .ok (.istore_n 2, 1) := by decide +kernel
theorem dX5_holes_19 : decode cX5_holes 19 = .ok (.iload_n 2, 1) := by decide +kernel
theorem dX5_holes_20 : decode cX5_holes 20 = .ok (.ifCond .eq 9, 3) := by decide +kernel
theorem dX5_holes_23 : decode cX5_holes 23 = .ok (.aload_n 0, 1) := by decide +kernel
theorem dX5_holes_24 : decode cX5_holes 24 = .ok (.iload_n 2, 1) := by decide +kernel
theorem dX5_holes_25 : decode cX5_holes 25 = .ok (.invokevirtual 48, 3) := by decide +kernel
theorem dX5_holes_28 : decode cX5_holes 28 = .ok (.ireturn, 1) := by decide +kernel
theorem dX5_holes_29 : decode cX5_holes 29 = .ok (.aload_n 0, 1) := by decide +kernel
theorem dX5_holes_30 : decode cX5_holes 30 = .ok (.getfield 29, 3) := by decide +kernel
theorem dX5_holes_33 : decode cX5_holes 33 = .ok (.aload_n 0, 1) := by decide +kernel
theorem dX5_holes_34 : decode cX5_holes 34 = .ok (.getfield 12, 3) := by decide +kernel
theorem dX5_holes_37 : decode cX5_holes 37 = .ok (.sipush 4095, 3) := by decide +kernel
theorem dX5_holes_40 : decode cX5_holes 40 = .ok (.invokevirtual 173, 3) := by decide +kernel
theorem dX5_holes_43 : decode cX5_holes 43 = .ok (.aload_n 0, 1) := by decide +kernel
theorem dX5_holes_44 : decode cX5_holes 44 = .ok (.getfield 29, 3) := by decide +kernel
theorem dX5_holes_47 : decode cX5_holes 47 = .ok (.iload_n 1, 1) := by decide +kernel
theorem dX5_holes_48 : decode cX5_holes 48 = .ok (.invokevirtual 186, 3) := by decide +kernel
theorem dX5_holes_51 : decode cX5_holes 51 = .ok (.ireturn, 1) := by decide +kernel
set_option maxRecDepth 20000 in
theorem ggX5_good_X5_isGood : GoodIn wsX5_good wsX5_isGood := goodIn_r _ [8] (by decide +kernel) (by decide +kernel)
set_option maxRecDepth 20000 in
theorem gX5_good_X5_isGood : GoodIn wsX5_good (va_wsS RX5 183 yX5_isGood wsX5_isGood) := goodIn_app (goodIn_of _ (by decide +kernel)) ggX5_good_X5_isGood
set_option maxRecDepth 20000 in
theorem ggX5_good_X5_finding : GoodIn wsX5_good wsX5_finding := goodIn_r _ [12, 13, 107, 108, 109, 110, 111, 112, 113] (by decide +kernel) (by decide +kernel)
set_option maxRecDepth 20000 in
theorem gX5_good_X5_finding : GoodIn wsX5_good (wsV RX5 48 RX5 yX5_finding wsX5_finding) := goodIn_app (goodIn_of _ (by decide +kernel)) ggX5_good_X5_finding
set_option maxRecDepth 20000 in
theorem ggX5_good_X2_havers : GoodIn wsX5_good wsX2_havers := goodIn_r _ [18, 19, 20, 21, 22, 7, 23, 114, 115, 116, 117, 118, 119, 120, 121, 122, 123, 124, 125, 126, 127, 128, 129] (by decide +kernel) (by decide +kernel)
set_option maxRecDepth 20000 in
theorem gX5_good_X2_havers : GoodIn wsX5_good (wsV RX5 189 RX2 yX2_havers wsX2_havers) := goodIn_app (goodIn_of _ (by decide +kernel)) ggX5_good_X2_havers
set_option maxRecDepth 20000 in
theorem ggX5_good_X5_orderHindrance : GoodIn wsX5_good wsX5_orderHindrance := goodIn_r _ [27, 2, 28, 3, 29, 107, 108, 109, 110, 111, 112, 113, 114, 115, 116, 117, 118, 119, 120] (by decide +kernel) (by decide +kernel)
set_option maxRecDepth 20000 in
theorem gX5_good_X5_orderHindrance : GoodIn wsX5_good (wsV RX5 169 RX5 yX5_orderHindrance wsX5_orderHindrance) := goodIn_app (goodIn_of _ (by decide +kernel)) ggX5_good_X5_orderHindrance
set_option maxRecDepth 20000 in
theorem ggX5_good_X3_solve : GoodIn wsX5_good wsX3_solve := goodIn_r _ [34, 35, 36, 37, 33, 38, 39, 40, 41, 42, 43, 44, 45, 46, 47, 48, 49, 50, 51, 52, 53, 54, 55, 56, 57, 58, 59, 60, 61, 62, 63, 64, 65, 66, 67, 68, 69, 70, 71, 72, 73, 74, 75, 76, 77, 78, 79, 80, 81, 82, 22, 7, 23, 83, 84, 85, 86, 87, 88, 89, 90, 91, 92, 93, 94, 95, 96, 97, 98, 130, 131, 132, 133, 134, 135, 136, 137, 114, 115, 116, 117, 118, 119, 120, 121, 122, 123, 124, 125, 126, 127, 128, 129] (by decide +kernel) (by decide +kernel)
set_option maxRecDepth 20000 in
theorem gX5_good_X3_solve : GoodIn wsX5_good (wsV RX5 173 RX3 yX3_solve wsX3_solve) := goodIn_app (goodIn_of _ (by decide +kernel)) ggX5_good_X3_solve
set_option maxRecDepth 20000 in
theorem ggX5_good_X3_lastPlaceOf : GoodIn wsX5_good wsX3_lastPlaceOf := goodIn_r _ [102, 39, 47, 98, 22, 7, 23, 130, 131, 132, 133, 134, 135, 136, 137] (by decide +kernel) (by decide +kernel)
set_option maxRecDepth 20000 in
theorem gX5_good_X3_lastPlaceOf : GoodIn wsX5_good (wsV RX5 192 RX3 yX3_lastPlaceOf wsX3_lastPlaceOf) := goodIn_app (goodIn_of _ (by decide +kernel)) ggX5_good_X3_lastPlaceOf
set_option maxRecDepth 20000 in
theorem ggX5_good_X3_firstPlaceOf : GoodIn wsX5_good wsX3_firstPlaceOf := goodIn_r _ [106, 39, 47, 98, 22, 7, 23, 130, 131, 132, 133, 134, 135, 136, 137] (by decide +kernel) (by decide +kernel)
set_option maxRecDepth 20000 in
theorem gX5_good_X3_firstPlaceOf : GoodIn wsX5_good (wsV RX5 195 RX3 yX3_firstPlaceOf wsX3_firstPlaceOf) := goodIn_app (goodIn_of _ (by decide +kernel)) ggX5_good_X3_firstPlaceOf
theorem dX5_good_0 : decode cX5_good 0 = .ok (.iload_n 1, 1) := by decide +kernel
theorem dX5_good_1 : decode cX5_good 1 = .ok (.invokestatic 183, 3) := by decide +kernel
theorem dX5_good_4 : decode cX5_good 4 = .ok (.ifCond .ne 10, 3) := by decide +kernel
theorem dX5_good_7 : decode cX5_good 7 = .ok (.aload_n 0, 1) := by decide +kernel
theorem dX5_good_8 : decode cX5_good 8 = .ok (.ldc 47, 2) := by decide +kernel
theorem dX5_good_10 : decode cX5_good 10 = .ok (.invokevirtual 48, 3) := by decide +kernel
theorem dX5_good_13 : decode cX5_good 13 = .ok (.ireturn, 1) := by decide +kernel
theorem dX5_good_14 : decode cX5_good 14 = .ok (.aload_n 0, 1) := by decide +kernel
theorem dX5_good_15 : decode cX5_good 15 = .ok (.getfield 12, 3) := by decide +kernel
theorem dX5_good_18 : decode cX5_good 18 = .ok (.iload_n 1, 1) := by decide +kernel
theorem dX5_good_19 : decode cX5_good 19 = .ok (.invokevirtual 189, 3) := by decide +kernel
theorem dX5_good_22 : decode cX5_good 22 = .ok (.ifCond .ne 10, 3) := by decide +kernel
theorem dX5_good_25 : decode cX5_good 25 = .ok (.aload_n 0, 1) := by decide +kernel
theorem dX5_good_26 : decode cX5_good 26 = .ok (.ldc 125, 2) := by decide +kernel
theorem dX5_good_28 : decode cX5_good 28 = .ok (.invokevirtual 48, 3) := by decide +kernel
theorem dX5_good_31 : decode cX5_good 31 = .ok (.ireturn, 1) := by decide +kernel
theorem dX5_good_32 : decode cX5_good 32 = .ok (.aload_n 0, 1) := by decide +kernel
theorem dX5_good_33 : decode cX5_good 33 = .ok (.invokevirtual 169, 3) := by decide +kernel
theorem dX5_good_36 : decode cX5_good 36 = .ok (.istore_n 3, 1) := by decide +kernel
theorem dX5_good_37 : decode cX5_good 37 = .ok (.iload_n 3, 1) := by decide +kernel
theorem dX5_good_38 : decode cX5_good 38 = .ok (.ifCond .eq 9, 3) := by decide +kernel
theorem dX5_good_41 : decode cX5_good 41 = .ok (.aload_n 0, 1) := by decide +kernel
theorem dX5_good_42 : decode cX5_good 42 = .ok (.iload_n 3, 1) := by decide +kernel
theorem dX5_good_43 : decode cX5_good 43 = .ok (.invokevirtual 48, 3) := by decide +kernel
theorem dX5_good_46 : decode cX5_good 46 = .ok (.ireturn, 1) := by decide +kernel
theorem dX5_good_47 : decode cX5_good 47 = .ok (.aload_n 0, 1) := by decide +kernel
theorem dX5_good_48 : decode cX5_good 48 = .ok (.getfield 29, 3) := by decide +kernel
theorem dX5_good_51 : decode cX5_good 51 = .ok (.aload_n 0, 1) := by decide +kernel
theorem dX5_good_52 : decode cX5_good 52 = .ok (.getfield 12, 3) := by decide +kernel
theorem dX5_good_55 : decode cX5_good 55 = .ok (.sipush 4095, 3) := by decide +kernel
theorem dX5_good_58 : decode cX5_good 58 = .ok (.invokevirtual 173, 3) := by decide +kernel
theorem dX5_good_61 : decode cX5_good 61 = .ok (.iload_n 2, 1) := by decide +kernel
theorem dX5_good_62 : decode cX5_good 62 = .ok (.ifCond .eq 14, 3) := by decide +kernel
theorem dX5_good_65 : decode cX5_good 65 = .ok (.aload_n 0, 1) := by decide +kernel
theorem dX5_good_66 : decode cX5_good 66 = .ok (.getfield 29, 3) := by decide +kernel
theorem dX5_good_69 : decode cX5_good 69 = .ok (.iload_n 1, 1) := by decide +kernel
theorem dX5_good_70 : decode cX5_good 70 = .ok (.invokevirtual 192, 3) := by decide +kernel
theorem dX5_good_73 : decode cX5_good 73 = .ok (.goto 11, 3) := by decide +kernel
theorem dX5_good_76 : decode cX5_good 76 = .ok (.aload_n 0, 1) := by decide +kernel
theorem dX5_good_77 : decode cX5_good 77 = .ok (.getfield 29, 3) := by decide +kernel
theorem dX5_good_80 : decode cX5_good 80 = .ok (.iload_n 1, 1) := by decide +kernel
theorem dX5_good_81 : decode cX5_good 81 = .ok (.invokevirtual 195, 3) := by decide +kernel
theorem dX5_good_84 : decode cX5_good 84 = .ok (.ireturn, 1) := by decide +kernel
set_option maxRecDepth 20000 in
theorem ggX5_tell_X5_finding : GoodIn wsX5_tell wsX5_finding := goodIn_r _ [9, 10, 11, 12, 13, 14, 15, 16, 17] (by decide +kernel) (by decide +kernel)
set_option maxRecDepth 20000 in
theorem gX5_tell_X5_finding : GoodIn wsX5_tell (wsV RX5 48 RX5 yX5_finding wsX5_finding) := goodIn_app (goodIn_of _ (by decide +kernel)) ggX5_tell_X5_finding
theorem dX5_tell_0 : decode cX5_tell 0 = .ok (.aload_n 0, 1) := by decide +kernel
theorem dX5_tell_1 : decode cX5_tell 1 = .ok (.getfield 12, 3) := by decide +kernel
theorem dX5_tell_4 : decode cX5_tell 4 = .ok (.getfield 198, 3) := by decide +kernel
theorem dX5_tell_7 : decode cX5_tell 7 = .ok (.bipush 12, 2) := by decide +kernel
theorem dX5_tell_9 : decode cX5_tell 9 = .ok (.if_icmp .lt 10, 3) := by decide +kernel
theorem dX5_tell_12 : decode cX5_tell 12 = .ok (.aload_n 0, 1) := by decide +kernel
theorem dX5_tell_13 : decode cX5_tell 13 = .ok (.ldc 56, 2) := by decide +kernel
theorem dX5_tell_15 : decode cX5_tell 15 = .ok (.invokevirtual 48, 3) := by decide +kernel
theorem dX5_tell_18 : decode cX5_tell 18 = .ok (.ireturn, 1) := by decide +kernel
theorem dX5_tell_19 : decode cX5_tell 19 = .ok (.aload_n 0, 1) := by decide +kernel
theorem dX5_tell_20 : decode cX5_tell 20 = .ok (.getfield 12, 3) := by decide +kernel
theorem dX5_tell_23 : decode cX5_tell 23 = .ok (.getfield 201, 3) := by decide +kernel
theorem dX5_tell_26 : decode cX5_tell 26 = .ok (.aload_n 0, 1) := by decide +kernel
theorem dX5_tell_27 : decode cX5_tell 27 = .ok (.getfield 12, 3) := by decide +kernel
theorem dX5_tell_30 : decode cX5_tell 30 = .ok (.getfield 198, 3) := by decide +kernel
theorem dX5_tell_33 : decode cX5_tell 33 = .ok (.iload_n 1, 1) := by decide +kernel
theorem dX5_tell_34 : decode cX5_tell 34 = .ok (.iastore, 1) := by decide +kernel
theorem dX5_tell_35 : decode cX5_tell 35 = .ok (.aload_n 0, 1) := by decide +kernel
theorem dX5_tell_36 : decode cX5_tell 36 = .ok (.getfield 12, 3) := by decide +kernel
theorem dX5_tell_39 : decode cX5_tell 39 = .ok (.dup, 1) := by decide +kernel
theorem dX5_tell_40 : decode cX5_tell 40 = .ok (.getfield 198, 3) := by decide +kernel
theorem dX5_tell_43 : decode cX5_tell 43 = .ok (.iconst 1, 1) := by decide +kernel
theorem dX5_tell_44 : decode cX5_tell 44 = .ok (.iadd, 1) := by decide +kernel
theorem dX5_tell_45 : decode cX5_tell 45 = .ok (.putfield 198, 3) := by decide +kernel
theorem dX5_tell_48 : decode cX5_tell 48 = .ok (.aload_n 0, 1) := by decide +kernel
theorem dX5_tell_49 : decode cX5_tell 49 = .ok (.getfield 12, 3) := by decide +kernel
theorem dX5_tell_52 : decode cX5_tell 52 = .ok (.getfield 198, 3) := by decide +kernel
theorem dX5_tell_55 : decode cX5_tell 55 = .ok (.ireturn, 1) := by decide +kernel
set_option maxRecDepth 20000 in
theorem ggX5_check_X5_finding : GoodIn wsX5_check wsX5_finding := goodIn_r _ [10, 11, 51, 52, 53, 54, 55, 56, 57] (by decide +kernel) (by decide +kernel)
set_option maxRecDepth 20000 in
theorem gX5_check_X5_finding : GoodIn wsX5_check (wsV RX5 48 RX5 yX5_finding wsX5_finding) := goodIn_app (goodIn_of _ (by decide +kernel)) ggX5_check_X5_finding
set_option maxRecDepth 20000 in
theorem ggX5_check_X2_fitsBehind : GoodIn wsX5_check wsX2_fitsBehind := goodIn_r _ [16, 17, 18, 19, 20, 21, 22, 15, 23, 24, 25, 9, 26, 58, 59, 60, 61, 62, 63, 64, 65, 66, 67, 68, 69, 70, 71, 72, 73] (by decide +kernel) (by decide +kernel)
set_option maxRecDepth 20000 in
theorem gX5_check_X2_fitsBehind : GoodIn wsX5_check (wsV RX5 204 RX2 yX2_fitsBehind wsX2_fitsBehind) := goodIn_app (goodIn_of _ (by decide +kernel)) ggX5_check_X2_fitsBehind
set_option maxRecDepth 20000 in
theorem ggX5_check_X2_costOfWaiting : GoodIn wsX5_check wsX2_costOfWaiting := goodIn_r _ [30, 24, 18, 17, 31, 32, 33, 34, 35, 36, 37, 38, 39, 40, 41, 42, 43, 44, 45, 46, 47, 48, 49, 50, 58, 59, 60, 61, 62, 63, 64, 65, 66, 67, 68, 69, 70, 71, 72, 73] (by decide +kernel) (by decide +kernel)
set_option maxRecDepth 20000 in
theorem gX5_check_X2_costOfWaiting : GoodIn wsX5_check (wsV RX5 208 RX2 yX2_costOfWaiting wsX2_costOfWaiting) := goodIn_app (goodIn_of _ (by decide +kernel)) ggX5_check_X2_costOfWaiting
theorem dX5_check_0 : decode cX5_check 0 = .ok (.aload_n 0, 1) := by decide +kernel
theorem dX5_check_1 : decode cX5_check 1 = .ok (.getfield 12, 3) := by decide +kernel
theorem dX5_check_4 : decode cX5_check 4 = .ok (.getfield 198, 3) := by decide +kernel
theorem dX5_check_7 : decode cX5_check 7 = .ok (.istore_n 1, 1) := by decide +kernel
theorem dX5_check_8 : decode cX5_check 8 = .ok (.aload_n 0, 1) := by decide +kernel
theorem dX5_check_9 : decode cX5_check 9 = .ok (.getfield 12, 3) := by decide +kernel
theorem dX5_check_12 : decode cX5_check 12 = .ok (.iconst 0, 1) := by decide +kernel
theorem dX5_check_13 : decode cX5_check 13 = .ok (.putfield 198, 3) := by decide +kernel
theorem dX5_check_16 : decode cX5_check 16 = .ok (.aload_n 0, 1) := by decide +kernel
theorem dX5_check_17 : decode cX5_check 17 = .ok (.getfield 12, 3) := by decide +kernel
theorem dX5_check_20 : decode cX5_check 20 = .ok (.getfield 52, 3) := by decide +kernel
theorem dX5_check_23 : decode cX5_check 23 = .ok (.ifCond .ne 10, 3) := by decide +kernel
theorem dX5_check_26 : decode cX5_check 26 = .ok (.aload_n 0, 1) := by decide +kernel
theorem dX5_check_27 : decode cX5_check 27 = .ok (.ldc 125, 2) := by decide +kernel
theorem dX5_check_29 : decode cX5_check 29 = .ok (.invokevirtual 48, 3) := by decide +kernel
theorem dX5_check_32 : decode cX5_check 32 = .ok (.ireturn, 1) := by decide +kernel
theorem dX5_check_33 : decode cX5_check 33 = .ok (.iconst 0, 1) := by decide +kernel
theorem dX5_check_34 : decode cX5_check 34 = .ok (.istore_n 2, 1) := by decide +kernel
theorem dX5_check_35 : decode cX5_check 35 = .ok (.iconst 0, 1) := by decide +kernel
theorem dX5_check_36 : decode cX5_check 36 = .ok (.istore_n 3, 1) := by decide +kernel
theorem dX5_check_37 : decode cX5_check 37 = .ok (.iload_n 3, 1) := by decide +kernel
theorem dX5_check_38 : decode cX5_check 38 = .ok (.aload_n 0, 1) := by decide +kernel
theorem dX5_check_39 : decode cX5_check 39 = .ok (.getfield 12, 3) := by decide +kernel
theorem dX5_check_42 : decode cX5_check 42 = .ok (.getfield 52, 3) := by decide +kernel
theorem dX5_check_45 : decode cX5_check 45 = .ok (.if_icmp .ge 40, 3) := by decide +kernel
theorem dX5_check_48 : decode cX5_check 48 = .ok (.aload_n 0, 1) := by decide +kernel
theorem dX5_check_49 : decode cX5_check 49 = .ok (.getfield 12, 3) := by decide +kernel
theorem dX5_check_52 : decode cX5_check 52 = .ok (.iload_n 2, 1) := by decide +kernel
theorem dX5_check_53 : decode cX5_check 53 = .ok (.iload_n 3, 1) := by decide +kernel
theorem dX5_check_54 : decode cX5_check 54 = .ok (.iload_n 1, 1) := by decide +kernel
theorem dX5_check_55 : decode cX5_check 55 = .ok (.invokevirtual 204, 3) := by decide +kernel
theorem dX5_check_58 : decode cX5_check 58 = .ok (.ifCond .ne 7, 3) := by decide +kernel
theorem dX5_check_61 : decode cX5_check 61 = .ok (.iconst (-1), 1) := by decide +kernel
theorem dX5_check_62 : decode cX5_check 62 = .ok (.iload_n 3, 1) := by decide +kernel
theorem dX5_check_63 : decode cX5_check 63 = .ok (.isub, 1) := by decide +kernel
theorem dX5_check_64 : decode cX5_check 64 = .ok (.ireturn, 1) := by decide +kernel
theorem dX5_check_65 : decode cX5_check 65 = .ok (.iload_n 2, 1) := by decide +kernel
theorem dX5_check_66 : decode cX5_check 66 = .ok (.iconst 1, 1) := by decide +kernel
theorem dX5_check_67 : decode cX5_check 67 = .ok (.aload_n 0, 1) := by decide +kernel
theorem dX5_check_68 : decode cX5_check 68 = .ok (.getfield 12, 3) := by decide +kernel
theorem dX5_check_71 : decode cX5_check 71 = .ok (.getfield 201, 3) := by decide +kernel
theorem dX5_check_74 : decode cX5_check 74 = .ok (.iload_n 3, 1) := by decide +kernel
theorem dX5_check_75 : decode cX5_check 75 = .ok (.iaload, 1) := by decide +kernel
theorem dX5_check_76 : decode cX5_check 76 = .ok (.ishl, 1) := by decide +kernel
theorem dX5_check_77 : decode cX5_check 77 = .ok (.ior, 1) := by decide +kernel
theorem dX5_check_78 : decode cX5_check 78 = .ok (.istore_n 2, 1) := by decide +kernel
theorem dX5_check_79 : decode cX5_check 79 = .ok (.iinc 3 1, 3) := by decide +kernel
theorem dX5_check_82 : decode cX5_check 82 = .ok (.goto (-45), 3) := by decide +kernel
theorem dX5_check_85 : decode cX5_check 85 = .ok (.iload_n 1, 1) := by decide +kernel
theorem dX5_check_86 : decode cX5_check 86 = .ok (.aload_n 0, 1) := by decide +kernel
theorem dX5_check_87 : decode cX5_check 87 = .ok (.getfield 12, 3) := by decide +kernel
theorem dX5_check_90 : decode cX5_check 90 = .ok (.getfield 52, 3) := by decide +kernel
theorem dX5_check_93 : decode cX5_check 93 = .ok (.if_icmp .le 6, 3) := by decide +kernel
theorem dX5_check_96 : decode cX5_check 96 = .ok (.bipush (-12), 2) := by decide +kernel
theorem dX5_check_98 : decode cX5_check 98 = .ok (.ireturn, 1) := by decide +kernel
theorem dX5_check_99 : decode cX5_check 99 = .ok (.aload_n 0, 1) := by decide +kernel
theorem dX5_check_100 : decode cX5_check 100 = .ok (.getfield 12, 3) := by decide +kernel
theorem dX5_check_103 : decode cX5_check 103 = .ok (.invokevirtual 208, 3) := by decide +kernel
theorem dX5_check_106 : decode cX5_check 106 = .ok (.ireturn, 1) := by decide +kernel
set_option maxRecDepth 20000 in
theorem ggX5_without_X5_isGood : GoodIn wsX5_without wsX5_isGood := goodIn_r _ [7] (by decide +kernel) (by decide +kernel)
set_option maxRecDepth 20000 in
theorem gX5_without_X5_isGood : GoodIn wsX5_without (va_wsS RX5 183 yX5_isGood wsX5_isGood) := goodIn_app (goodIn_of _ (by decide +kernel)) ggX5_without_X5_isGood
set_option maxRecDepth 20000 in
theorem ggX5_without_X5_finding : GoodIn wsX5_without wsX5_finding := goodIn_r _ [11, 12, 95, 96, 97, 98, 99, 100, 101] (by decide +kernel) (by decide +kernel)
set_option maxRecDepth 20000 in
theorem gX5_without_X5_finding : GoodIn wsX5_without (wsV RX5 48 RX5 yX5_finding wsX5_finding) := goodIn_app (goodIn_of _ (by decide +kernel)) ggX5_without_X5_finding
set_option maxRecDepth 20000 in
theorem ggX5_without_X5_orderHindrance : GoodIn wsX5_without wsX5_orderHindrance := goodIn_r _ [16, 3, 17, 18, 19, 95, 96, 97, 98, 99, 100, 101, 102, 103, 104, 105, 106, 107, 108] (by decide +kernel) (by decide +kernel)
set_option maxRecDepth 20000 in
theorem gX5_without_X5_orderHindrance : GoodIn wsX5_without (wsV RX5 169 RX5 yX5_orderHindrance wsX5_orderHindrance) := goodIn_app (goodIn_of _ (by decide +kernel)) ggX5_without_X5_orderHindrance
set_option maxRecDepth 20000 in
theorem ggX5_without_X3_solve : GoodIn wsX5_without wsX3_solve := goodIn_r _ [24, 25, 26, 27, 23, 28, 29, 30, 31, 32, 33, 34, 35, 36, 37, 38, 39, 40, 41, 42, 43, 44, 45, 46, 47, 48, 49, 50, 51, 52, 53, 54, 55, 56, 57, 58, 59, 60, 61, 62, 63, 64, 65, 66, 67, 68, 69, 70, 71, 72, 73, 6, 74, 75, 76, 77, 78, 79, 80, 81, 82, 83, 84, 85, 86, 87, 88, 89, 90, 109, 110, 111, 112, 113, 114, 115, 116, 102, 103, 104, 105, 106, 107, 108, 117, 118, 119, 120, 121, 122, 123, 124, 125] (by decide +kernel) (by decide +kernel)
set_option maxRecDepth 20000 in
theorem gX5_without_X3_solve : GoodIn wsX5_without (wsV RX5 173 RX3 yX3_solve wsX3_solve) := goodIn_app (goodIn_of _ (by decide +kernel)) ggX5_without_X3_solve
set_option maxRecDepth 20000 in
theorem ggX5_without_X3_leastCost : GoodIn wsX5_without wsX3_leastCost := goodIn_r _ [94, 62, 109, 110, 111, 112, 113, 114, 115, 116] (by decide +kernel) (by decide +kernel)
set_option maxRecDepth 20000 in
theorem gX5_without_X3_leastCost : GoodIn wsX5_without (wsV RX5 177 RX3 yX3_leastCost wsX3_leastCost) := goodIn_app (goodIn_of _ (by decide +kernel)) ggX5_without_X3_leastCost
theorem dX5_without_0 : decode cX5_without 0 = .ok (.iload_n 1, 1) := by decide +kernel
theorem dX5_without_1 : decode cX5_without 1 = .ok (.invokestatic 183, 3) := by decide +kernel
theorem dX5_without_4 : decode cX5_without 4 = .ok (.ifCond .ne 10, 3) := by decide +kernel
theorem dX5_without_7 : decode cX5_without 7 = .ok (.aload_n 0, 1) := by decide +kernel
theorem dX5_without_8 : decode cX5_without 8 = .ok (.ldc 47, 2) := by decide +kernel
theorem dX5_without_10 : decode cX5_without 10 = .ok (.invokevirtual 48, 3) := by decide +kernel
theorem dX5_without_13 : decode cX5_without 13 = .ok (.ireturn, 1) := by decide +kernel
theorem dX5_without_14 : decode cX5_without 14 = .ok (.aload_n 0, 1) := by decide +kernel
theorem dX5_without_15 : decode cX5_without 15 = .ok (.invokevirtual 169, 3) := by decide +kernel
theorem dX5_without_18 : decode cX5_without 18 = .ok (.istore_n 2, 1) := by decide +kernel
theorem dX5_without_19 : decode cX5_without 19 = .ok (.iload_n 2, 1) := by decide +kernel
theorem dX5_without_20 : decode cX5_without 20 = .ok (.ifCond .eq 9, 3) := by decide +kernel
theorem dX5_without_23 : decode cX5_without 23 = .ok (.aload_n 0, 1) := by decide +kernel
theorem dX5_without_24 : decode cX5_without 24 = .ok (.iload_n 2, 1) := by decide +kernel
theorem dX5_without_25 : decode cX5_without 25 = .ok (.invokevirtual 48, 3) := by decide +kernel
theorem dX5_without_28 : decode cX5_without 28 = .ok (.ireturn, 1) := by decide +kernel
theorem dX5_without_29 : decode cX5_without 29 = .ok (.aload_n 0, 1) := by decide +kernel
theorem dX5_without_30 : decode cX5_without 30 = .ok (.getfield 29, 3) := by decide +kernel
theorem dX5_without_33 : decode cX5_without 33 = .ok (.aload_n 0, 1) := by decide +kernel
theorem dX5_without_34 : decode cX5_without 34 = .ok (.getfield 12, 3) := by decide +kernel
theorem dX5_without_37 : decode cX5_without 37 = .ok (.sipush 4095, 3) := by decide +kernel
theorem dX5_without_40 : decode cX5_without 40 = .ok (.iconst 1, 1) := by decide +kernel
theorem dX5_without_41 : decode cX5_without 41 = .ok (.iload_n 1, 1) := by decide +kernel
theorem dX5_without_42 : decode cX5_without 42 = .ok (.ishl, 1) := by decide +kernel
theorem dX5_without_43 : decode cX5_without 43 = .ok (.iconst (-1), 1) := by decide +kernel
theorem dX5_without_44 : decode cX5_without 44 = .ok (.ixor, 1) := by decide +kernel
theorem dX5_without_45 : decode cX5_without 45 = .ok (.iand, 1) := by decide +kernel
theorem dX5_without_46 : decode cX5_without 46 = .ok (.invokevirtual 173, 3) := by decide +kernel
theorem dX5_without_49 : decode cX5_without 49 = .ok (.aload_n 0, 1) := by decide +kernel
theorem dX5_without_50 : decode cX5_without 50 = .ok (.getfield 29, 3) := by decide +kernel
theorem dX5_without_53 : decode cX5_without 53 = .ok (.invokevirtual 177, 3) := by decide +kernel
theorem dX5_without_56 : decode cX5_without 56 = .ok (.ireturn, 1) := by decide +kernel
set_option maxRecDepth 20000 in
theorem ggX5_ways_X5_orderHindrance : GoodIn wsX5_ways wsX5_orderHindrance := goodIn_r _ [7, 2, 8, 9, 10, 91, 92, 93, 94, 95, 96, 97, 98, 99, 100, 101, 102, 103, 104] (by decide +kernel) (by decide +kernel)
set_option maxRecDepth 20000 in
theorem gX5_ways_X5_orderHindrance : GoodIn wsX5_ways (wsV RX5 169 RX5 yX5_orderHindrance wsX5_orderHindrance) := goodIn_app (goodIn_of _ (by decide +kernel)) ggX5_ways_X5_orderHindrance
set_option maxRecDepth 20000 in
theorem ggX5_ways_X5_finding : GoodIn wsX5_ways wsX5_finding := goodIn_r _ [14, 15, 91, 92, 93, 94, 95, 96, 97] (by decide +kernel) (by decide +kernel)
set_option maxRecDepth 20000 in
theorem gX5_ways_X5_finding : GoodIn wsX5_ways (wsV RX5 48 RX5 yX5_finding wsX5_finding) := goodIn_app (goodIn_of _ (by decide +kernel)) ggX5_ways_X5_finding
set_option maxRecDepth 20000 in
theorem ggX5_ways_X3_solve : GoodIn wsX5_ways wsX3_solve := goodIn_r _ [20, 21, 22, 23, 19, 24, 25, 26, 27, 28, 29, 30, 31, 32, 33, 34, 35, 36, 37, 38, 39, 40, 41, 42, 43, 44, 45, 46, 47, 48, 49, 50, 51, 52, 53, 54, 55, 56, 57, 58, 59, 60, 61, 62, 63, 64, 65, 66, 67, 68, 69, 6, 70, 71, 72, 73, 74, 75, 76, 77, 78, 79, 80, 81, 82, 83, 84, 85, 86, 105, 106, 107, 108, 109, 110, 111, 112, 98, 99, 100, 101, 102, 103, 104, 113, 114, 115, 116, 117, 118, 119, 120, 121] (by decide +kernel) (by decide +kernel)
set_option maxRecDepth 20000 in
theorem gX5_ways_X3_solve : GoodIn wsX5_ways (wsV RX5 173 RX3 yX3_solve wsX3_solve) := goodIn_app (goodIn_of _ (by decide +kernel)) ggX5_ways_X3_solve
set_option maxRecDepth 20000 in
theorem ggX5_ways_X3_leastWays : GoodIn wsX5_ways wsX3_leastWays := goodIn_r _ [90, 59, 105, 106, 107, 108, 109, 110, 111, 112] (by decide +kernel) (by decide +kernel)
set_option maxRecDepth 20000 in
theorem gX5_ways_X3_leastWays : GoodIn wsX5_ways (wsV RX5 211 RX3 yX3_leastWays wsX3_leastWays) := goodIn_app (goodIn_of _ (by decide +kernel)) ggX5_ways_X3_leastWays
theorem dX5_ways_0 : decode cX5_ways 0 = .ok (.aload_n 0, 1) := by decide +kernel
theorem dX5_ways_1 : decode cX5_ways 1 = .ok (.invokevirtual 169, 3) := by decide +kernel
theorem dX5_ways_4 : decode cX5_ways 4 = .ok (.istore_n 1, 1) := by decide +kernel
theorem dX5_ways_5 : decode cX5_ways 5 = .ok (.iload_n 1, 1) := by decide +kernel
theorem dX5_ways_6 : decode cX5_ways 6 = .ok (.ifCond .eq 9, 3) := by decide +kernel
theorem dX5_ways_9 : decode cX5_ways 9 = .ok (.aload_n 0, 1) := by decide +kernel
theorem dX5_ways_10 : decode cX5_ways 10 = .ok (.iload_n 1, 1) := by decide +kernel
theorem dX5_ways_11 : decode cX5_ways 11 = .ok (.invokevirtual 48, 3) := by decide +kernel
theorem dX5_ways_14 : decode cX5_ways 14 = .ok (.ireturn, 1) := by decide +kernel
theorem dX5_ways_15 : decode cX5_ways 15 = .ok (.aload_n 0, 1) := by decide +kernel
theorem dX5_ways_16 : decode cX5_ways 16 = .ok (.getfield 29, 3) := by decide +kernel
theorem dX5_ways_19 : decode cX5_ways 19 = .ok (.aload_n 0, 1) := by decide +kernel
theorem dX5_ways_20 : decode cX5_ways 20 = .ok (.getfield 12, 3) := by decide +kernel
theorem dX5_ways_23 : decode cX5_ways 23 = .ok (.sipush 4095, 3) := by decide +kernel
theorem dX5_ways_26 : decode cX5_ways 26 = .ok (.invokevirtual 173, 3) := by decide +kernel
theorem dX5_ways_29 : decode cX5_ways 29 = .ok (.aload_n 0, 1) := by decide +kernel
theorem dX5_ways_30 : decode cX5_ways 30 = .ok (.getfield 29, 3) := by decide +kernel
theorem dX5_ways_33 : decode cX5_ways 33 = .ok (.invokevirtual 211, 3) := by decide +kernel
theorem dX5_ways_36 : decode cX5_ways 36 = .ok (.ireturn, 1) := by decide +kernel
set_option maxRecDepth 20000 in
theorem ggX5_stretches_X5_stretchHindrance : GoodIn wsX5_stretches wsX5_stretchHindrance := goodIn_r _ [9, 2, 10, 11, 12, 13, 14, 8, 15, 16, 17, 112, 113, 114, 115, 116, 117, 118, 123, 124, 125, 126, 127, 128, 129] (by decide +kernel) (by decide +kernel)
set_option maxRecDepth 20000 in
theorem gX5_stretches_X5_stretchHindrance : GoodIn wsX5_stretches (wsV RX5 214 RX5 yX5_stretchHindrance wsX5_stretchHindrance) := goodIn_app (goodIn_of _ (by decide +kernel)) ggX5_stretches_X5_stretchHindrance
set_option maxRecDepth 20000 in
theorem ggX5_stretches_X5_finding : GoodIn wsX5_stretches wsX5_finding := goodIn_r _ [21, 22, 112, 113, 114, 115, 116, 117, 118] (by decide +kernel) (by decide +kernel)
set_option maxRecDepth 20000 in
theorem gX5_stretches_X5_finding : GoodIn wsX5_stretches (wsV RX5 48 RX5 yX5_finding wsX5_finding) := goodIn_app (goodIn_of _ (by decide +kernel)) ggX5_stretches_X5_finding
set_option maxRecDepth 20000 in
theorem ggX5_stretches_X3_solve : GoodIn wsX5_stretches wsX3_solve := goodIn_r _ [27, 28, 29, 30, 26, 31, 32, 33, 34, 35, 36, 37, 38, 39, 40, 41, 42, 43, 44, 45, 46, 47, 48, 49, 50, 51, 52, 53, 54, 55, 56, 57, 58, 59, 60, 61, 62, 63, 64, 65, 66, 67, 68, 69, 70, 71, 72, 73, 74, 75, 76, 8, 77, 78, 79, 80, 81, 82, 83, 84, 85, 86, 87, 88, 89, 90, 91, 92, 93, 130, 131, 132, 133, 134, 135, 136, 137, 123, 124, 125, 126, 127, 128, 129, 138, 139, 140, 141, 142, 143, 144, 145, 146] (by decide +kernel) (by decide +kernel)
set_option maxRecDepth 20000 in
theorem gX5_stretches_X3_solve : GoodIn wsX5_stretches (wsV RX5 173 RX3 yX3_solve wsX3_solve) := goodIn_app (goodIn_of _ (by decide +kernel)) ggX5_stretches_X3_solve
set_option maxRecDepth 20000 in
theorem ggX5_stretches_X0_choose : GoodIn wsX5_stretches wsX0_choose := goodIn_r _ [98, 99, 100, 101, 102, 103, 104, 105, 106, 26, 107, 93, 60, 68, 69, 70, 71, 32, 82, 83, 84, 85, 86, 87, 88, 108, 109, 110, 97, 111, 130, 131, 132, 133, 134, 135, 136, 137, 119, 120, 121, 122] (by decide +kernel) (by decide +kernel)
set_option maxRecDepth 20000 in
theorem gX5_stretches_X0_choose : GoodIn wsX5_stretches (wsV RX5 217 RX0 yX0_choose wsX0_choose) := goodIn_app (goodIn_of _ (by decide +kernel)) ggX5_stretches_X0_choose
theorem dX5_stretches_0 : decode cX5_stretches 0 = .ok (.aload_n 0, 1) := by decide +kernel
theorem dX5_stretches_1 : decode cX5_stretches 1 = .ok (.iload_n 1, 1) := by decide +kernel
theorem dX5_stretches_2 : decode cX5_stretches 2 = .ok (.invokevirtual 214, 3) := by decide +kernel
theorem dX5_stretches_5 : decode cX5_stretches 5 = .ok (.istore_n 2, 1) := by decide +kernel
theorem dX5_stretches_6 : decode cX5_stretches 6 = .ok (.iload_n 2, 1) := by decide +kernel
theorem dX5_stretches_7 : decode cX5_stretches 7 = .ok (.ifCond .eq 9, 3) := by decide +kernel
theorem dX5_stretches_10 : decode cX5_stretches 10 = .ok (.aload_n 0, 1) := by decide +kernel
theorem dX5_stretches_11 : decode cX5_stretches 11 = .ok (.iload_n 2, 1) := by decide +kernel
theorem dX5_stretches_12 : decode cX5_stretches 12 = .ok (.invokevirtual 48, 3) := by decide +kernel
theorem dX5_stretches_15 : decode cX5_stretches 15 = .ok (.ireturn, 1) := by decide +kernel
theorem dX5_stretches_16 : decode cX5_stretches 16 = .ok (.aload_n 0, 1) := by decide +kernel
theorem dX5_stretches_17 : decode cX5_stretches 17 = .ok (.getfield 29, 3) := by decide +kernel
theorem dX5_stretches_20 : decode cX5_stretches 20 = .ok (.aload_n 0, 1) := by decide +kernel
theorem dX5_stretches_21 : decode cX5_stretches 21 = .ok (.getfield 12, 3) := by decide +kernel
theorem dX5_stretches_24 : decode cX5_stretches 24 = .ok (.sipush 4095, 3) := by decide +kernel
theorem dX5_stretches_27 : decode cX5_stretches 27 = .ok (.invokevirtual 173, 3) := by decide +kernel
theorem dX5_stretches_30 : decode cX5_stretches 30 = .ok (.aload_n 0, 1) := by decide +kernel
theorem dX5_stretches_31 : decode cX5_stretches 31 = .ok (.getfield 36, 3) := by decide +kernel
theorem dX5_stretches_34 : decode cX5_stretches 34 = .ok (.aload_n 0, 1) := by decide +kernel
theorem dX5_stretches_35 : decode cX5_stretches 35 = .ok (.getfield 29, 3) := by decide +kernel
theorem dX5_stretches_38 : decode cX5_stretches 38 = .ok (.iload_n 1, 1) := by decide +kernel
theorem dX5_stretches_39 : decode cX5_stretches 39 = .ok (.invokevirtual 217, 3) := by decide +kernel
theorem dX5_stretches_42 : decode cX5_stretches 42 = .ok (.aload_n 0, 1) := by decide +kernel
theorem dX5_stretches_43 : decode cX5_stretches 43 = .ok (.getfield 36, 3) := by decide +kernel
theorem dX5_stretches_46 : decode cX5_stretches 46 = .ok (.getfield 221, 3) := by decide +kernel
theorem dX5_stretches_49 : decode cX5_stretches 49 = .ok (.ireturn, 1) := by decide +kernel
set_option maxRecDepth 20000 in
theorem ggX5_border_X5_stretchHindrance : GoodIn wsX5_border wsX5_stretchHindrance := goodIn_r _ [9, 3, 10, 1, 11, 12, 13, 8, 14, 15, 16, 115, 116, 117, 118, 119, 120, 121, 122, 123, 124, 125, 126, 127, 128] (by decide +kernel) (by decide +kernel)
set_option maxRecDepth 20000 in
theorem gX5_border_X5_stretchHindrance : GoodIn wsX5_border (wsV RX5 214 RX5 yX5_stretchHindrance wsX5_stretchHindrance) := goodIn_app (goodIn_of _ (by decide +kernel)) ggX5_border_X5_stretchHindrance
set_option maxRecDepth 20000 in
theorem ggX5_border_X5_finding : GoodIn wsX5_border wsX5_finding := goodIn_r _ [20, 21, 115, 116, 117, 118, 119, 120, 121] (by decide +kernel) (by decide +kernel)
set_option maxRecDepth 20000 in
theorem gX5_border_X5_finding : GoodIn wsX5_border (wsV RX5 48 RX5 yX5_finding wsX5_finding) := goodIn_app (goodIn_of _ (by decide +kernel)) ggX5_border_X5_finding
set_option maxRecDepth 20000 in
theorem ggX5_border_X3_solve : GoodIn wsX5_border wsX3_solve := goodIn_r _ [26, 27, 28, 29, 25, 30, 31, 32, 33, 34, 35, 36, 37, 38, 39, 40, 41, 42, 43, 44, 45, 46, 47, 48, 49, 50, 51, 52, 53, 54, 55, 56, 57, 58, 59, 60, 61, 62, 63, 64, 65, 66, 67, 68, 69, 70, 71, 72, 73, 74, 75, 8, 76, 77, 78, 79, 80, 81, 82, 83, 84, 85, 86, 87, 88, 89, 90, 91, 92, 129, 130, 131, 132, 133, 134, 135, 136, 122, 123, 124, 125, 126, 127, 128, 137, 138, 139, 140, 141, 142, 143, 144, 145] (by decide +kernel) (by decide +kernel)
set_option maxRecDepth 20000 in
theorem gX5_border_X3_solve : GoodIn wsX5_border (wsV RX5 173 RX3 yX3_solve wsX3_solve) := goodIn_app (goodIn_of _ (by decide +kernel)) ggX5_border_X3_solve
set_option maxRecDepth 20000 in
theorem ggX5_border_X0_choose : GoodIn wsX5_border wsX0_choose := goodIn_r _ [97, 98, 99, 100, 101, 102, 103, 104, 105, 25, 106, 92, 59, 67, 68, 69, 70, 31, 81, 82, 83, 84, 85, 86, 87, 107, 108, 109, 96, 110, 129, 130, 131, 132, 133, 134, 135, 136, 146, 147, 148, 149] (by decide +kernel) (by decide +kernel)
set_option maxRecDepth 20000 in
theorem gX5_border_X0_choose : GoodIn wsX5_border (wsV RX5 217 RX0 yX0_choose wsX0_choose) := goodIn_app (goodIn_of _ (by decide +kernel)) ggX5_border_X0_choose
set_option maxRecDepth 20000 in
theorem ggX5_border_X0_beginOf : GoodIn wsX5_border wsX0_beginOf := goodIn_r _ [114, 99, 102, 146, 147, 148, 149] (by decide +kernel) (by decide +kernel)
set_option maxRecDepth 20000 in
theorem gX5_border_X0_beginOf : GoodIn wsX5_border (wsV RX5 224 RX0 yX0_beginOf wsX0_beginOf) := goodIn_app (goodIn_of _ (by decide +kernel)) ggX5_border_X0_beginOf
theorem dX5_border_0 : decode cX5_border 0 = .ok (.aload_n 0, 1) := by decide +kernel
theorem dX5_border_1 : decode cX5_border 1 = .ok (.iload_n 1, 1) := by decide +kernel
theorem dX5_border_2 : decode cX5_border 2 = .ok (.invokevirtual 214, 3) := by decide +kernel
theorem dX5_border_5 : decode cX5_border 5 = .ok (.istore_n 3, 1) := by decide +kernel
theorem dX5_border_6 : decode cX5_border 6 = .ok (.iload_n 3, 1) := by decide +kernel
theorem dX5_border_7 : decode cX5_border 7 = .ok (.ifCond .eq 9, 3) := by decide +kernel
theorem dX5_border_10 : decode cX5_border 10 = .ok (.aload_n 0, 1) := by decide +kernel
theorem dX5_border_11 : decode cX5_border 11 = .ok (.iload_n 3, 1) := by decide +kernel
theorem dX5_border_12 : decode cX5_border 12 = .ok (.invokevirtual 48, 3) := by decide +kernel
theorem dX5_border_15 : decode cX5_border 15 = .ok (.ireturn, 1) := by decide +kernel
theorem dX5_border_16 : decode cX5_border 16 = .ok (.iload_n 2, 1) := by decide +kernel
theorem dX5_border_17 : decode cX5_border 17 = .ok (.ifCond .lt 8, 3) := by decide +kernel
theorem dX5_border_20 : decode cX5_border 20 = .ok (.iload_n 2, 1) := by decide +kernel
theorem dX5_border_21 : decode cX5_border 21 = .ok (.iload_n 1, 1) := by decide +kernel
theorem dX5_border_22 : decode cX5_border 22 = .ok (.if_icmp .lt 10, 3) := by decide +kernel
theorem dX5_border_25 : decode cX5_border 25 = .ok (.aload_n 0, 1) := by decide +kernel
theorem dX5_border_26 : decode cX5_border 26 = .ok (.ldc 47, 2) := by decide +kernel
theorem dX5_border_28 : decode cX5_border 28 = .ok (.invokevirtual 48, 3) := by decide +kernel
theorem dX5_border_31 : decode cX5_border 31 = .ok (.ireturn, 1) := by decide +kernel
theorem dX5_border_32 : decode cX5_border 32 = .ok (.aload_n 0, 1) := by decide +kernel
theorem dX5_border_33 : decode cX5_border 33 = .ok (.getfield 29, 3) := by decide +kernel
theorem dX5_border_36 : decode cX5_border 36 = .ok (.aload_n 0, 1) := by decide +kernel
theorem dX5_border_37 : decode cX5_border 37 = .ok (.getfield 12, 3) := by decide +kernel
theorem dX5_border_40 : decode cX5_border 40 = .ok (.sipush 4095, 3) := by decide +kernel
theorem dX5_border_43 : decode cX5_border 43 = .ok (.invokevirtual 173, 3) := by decide +kernel
theorem dX5_border_46 : decode cX5_border 46 = .ok (.aload_n 0, 1) := by decide +kernel
theorem dX5_border_47 : decode cX5_border 47 = .ok (.getfield 36, 3) := by decide +kernel
theorem dX5_border_50 : decode cX5_border 50 = .ok (.aload_n 0, 1) := by decide +kernel
theorem dX5_border_51 : decode cX5_border 51 = .ok (.getfield 29, 3) := by decide +kernel
theorem dX5_border_54 : decode cX5_border 54 = .ok (.iload_n 1, 1) := by decide +kernel
theorem dX5_border_55 : decode cX5_border 55 = .ok (.invokevirtual 217, 3) := by decide +kernel
theorem dX5_border_58 : decode cX5_border 58 = .ok (.aload_n 0, 1) := by decide +kernel
theorem dX5_border_59 : decode cX5_border 59 = .ok (.getfield 36, 3) := by decide +kernel
theorem dX5_border_62 : decode cX5_border 62 = .ok (.iload_n 2, 1) := by decide +kernel
theorem dX5_border_63 : decode cX5_border 63 = .ok (.invokevirtual 224, 3) := by decide +kernel
theorem dX5_border_66 : decode cX5_border 66 = .ok (.ireturn, 1) := by decide +kernel
set_option maxRecDepth 20000 in
theorem ggX5_year_X2_holds : GoodIn wsX5_year wsX2_holds := goodIn_r _ [7, 8, 60, 61, 62, 63, 64, 65, 66] (by decide +kernel) (by decide +kernel)
set_option maxRecDepth 20000 in
theorem gX5_year_X2_holds : GoodIn wsX5_year (wsV RX5 61 RX2 yX2_holds wsX2_holds) := goodIn_app (goodIn_of _ (by decide +kernel)) ggX5_year_X2_holds
set_option maxRecDepth 20000 in
theorem ggX5_year_X5_finding : GoodIn wsX5_year wsX5_finding := goodIn_r _ [13, 14, 53, 54, 55, 56, 57, 58, 59] (by decide +kernel) (by decide +kernel)
set_option maxRecDepth 20000 in
theorem gX5_year_X5_finding : GoodIn wsX5_year (wsV RX5 48 RX5 yX5_finding wsX5_finding) := goodIn_app (goodIn_of _ (by decide +kernel)) ggX5_year_X5_finding
set_option maxRecDepth 20000 in
theorem ggX5_year_X2_latestOf : GoodIn wsX5_year wsX2_latestOf := goodIn_r _ [18, 8, 19, 20, 21, 22, 23, 24, 25, 26, 27, 6, 28, 29, 30, 31, 32, 33, 34, 35, 12, 36, 37, 38, 39, 40, 60, 61, 62, 63, 64, 65, 66, 67, 68, 69, 70, 71, 72, 73, 74, 75] (by decide +kernel) (by decide +kernel)
set_option maxRecDepth 20000 in
theorem gX5_year_X2_latestOf : GoodIn wsX5_year (wsV RX5 227 RX2 yX2_latestOf wsX2_latestOf) := goodIn_app (goodIn_of _ (by decide +kernel)) ggX5_year_X2_latestOf
set_option maxRecDepth 20000 in
theorem ggX5_year_X2_earliestOf : GoodIn wsX5_year wsX2_earliestOf := goodIn_r _ [44, 8, 19, 45, 46, 47, 23, 48, 49, 50, 51, 6, 52, 29, 34, 37, 38, 39, 40, 35, 12, 36, 60, 61, 62, 63, 64, 65, 66, 67, 68, 69, 70, 71, 72, 73, 74, 75] (by decide +kernel) (by decide +kernel)
set_option maxRecDepth 20000 in
theorem gX5_year_X2_earliestOf : GoodIn wsX5_year (wsV RX5 230 RX2 yX2_earliestOf wsX2_earliestOf) := goodIn_app (goodIn_of _ (by decide +kernel)) ggX5_year_X2_earliestOf
theorem dX5_year_0 : decode cX5_year 0 = .ok (.aload_n 0, 1) := by decide +kernel
theorem dX5_year_1 : decode cX5_year 1 = .ok (.getfield 12, 3) := by decide +kernel
theorem dX5_year_4 : decode cX5_year 4 = .ok (.iload_n 1, 1) := by decide +kernel
theorem dX5_year_5 : decode cX5_year 5 = .ok (.invokevirtual 61, 3) := by decide +kernel
theorem dX5_year_8 : decode cX5_year 8 = .ok (.ifCond .ne 10, 3) := by decide +kernel
theorem dX5_year_11 : decode cX5_year 11 = .ok (.aload_n 0, 1) := by decide +kernel
theorem dX5_year_12 : decode cX5_year 12 = .ok (.ldc 47, 2) := by decide +kernel
theorem dX5_year_14 : decode cX5_year 14 = .ok (.invokevirtual 48, 3) := by decide +kernel
theorem dX5_year_17 : decode cX5_year 17 = .ok (.ireturn, 1) := by decide +kernel
theorem dX5_year_18 : decode cX5_year 18 = .ok (.iload_n 2, 1) := by decide +kernel
theorem dX5_year_19 : decode cX5_year 19 = .ok (.ifCond .eq 14, 3) := by decide +kernel
theorem dX5_year_22 : decode cX5_year 22 = .ok (.aload_n 0, 1) := by decide +kernel
theorem dX5_year_23 : decode cX5_year 23 = .ok (.getfield 12, 3) := by decide +kernel
theorem dX5_year_26 : decode cX5_year 26 = .ok (.iload_n 1, 1) := by decide +kernel
theorem dX5_year_27 : decode cX5_year 27 = .ok (.invokevirtual 227, 3) := by decide +kernel
theorem dX5_year_30 : decode cX5_year 30 = .ok (.goto 11, 3) := by decide +kernel
theorem dX5_year_33 : decode cX5_year 33 = .ok (.aload_n 0, 1) := by decide +kernel
theorem dX5_year_34 : decode cX5_year 34 = .ok (.getfield 12, 3) := by decide +kernel
theorem dX5_year_37 : decode cX5_year 37 = .ok (.iload_n 1, 1) := by decide +kernel
theorem dX5_year_38 : decode cX5_year 38 = .ok (.invokevirtual 230, 3) := by decide +kernel
theorem dX5_year_41 : decode cX5_year 41 = .ok (.ireturn, 1) := by decide +kernel
set_option maxRecDepth 20000 in
theorem ggX5_wrong_X2_earliestOf : GoodIn wsX5_wrong wsX2_earliestOf := goodIn_r _ [7, 8, 9, 10, 11, 12, 13, 14, 15, 16, 17, 6, 18, 19, 20, 21, 22, 23, 24, 25, 26, 27, 51, 52, 53, 54, 55, 56, 57, 58, 59, 60, 61, 62, 63, 64, 65, 66] (by decide +kernel) (by decide +kernel)
set_option maxRecDepth 20000 in
theorem gX5_wrong_X2_earliestOf : GoodIn wsX5_wrong (wsV RX5 230 RX2 yX2_earliestOf wsX2_earliestOf) := goodIn_app (goodIn_of _ (by decide +kernel)) ggX5_wrong_X2_earliestOf
set_option maxRecDepth 20000 in
theorem ggX5_wrong_X2_latestOf : GoodIn wsX5_wrong wsX2_latestOf := goodIn_r _ [31, 8, 9, 32, 33, 34, 13, 35, 36, 37, 38, 6, 39, 19, 40, 41, 42, 43, 20, 25, 26, 27, 21, 22, 23, 24, 51, 52, 53, 54, 55, 56, 57, 58, 59, 60, 61, 62, 63, 64, 65, 66] (by decide +kernel) (by decide +kernel)
set_option maxRecDepth 20000 in
theorem gX5_wrong_X2_latestOf : GoodIn wsX5_wrong (wsV RX5 227 RX2 yX2_latestOf wsX2_latestOf) := goodIn_app (goodIn_of _ (by decide +kernel)) ggX5_wrong_X2_latestOf
theorem dX5_wrong_0 : decode cX5_wrong 0 = .ok (.iconst 0, 1) := by decide +kernel
theorem dX5_wrong_1 : decode cX5_wrong 1 = .ok (.istore_n 1, 1) := by decide +kernel
theorem dX5_wrong_2 : decode cX5_wrong 2 = .ok (.iload_n 1, 1) := by decide +kernel
theorem dX5_wrong_3 : decode cX5_wrong 3 = .ok (.aload_n 0, 1) := by decide +kernel
theorem dX5_wrong_4 : decode cX5_wrong 4 = .ok (.getfield 12, 3) := by decide +kernel
theorem dX5_wrong_7 : decode cX5_wrong 7 = .ok (.getfield 52, 3) := by decide +kernel
theorem dX5_wrong_10 : decode cX5_wrong 10 = .ok (.if_icmp .ge 30, 3) := by decide +kernel
theorem dX5_wrong_13 : decode cX5_wrong 13 = .ok (.aload_n 0, 1) := by decide +kernel
theorem dX5_wrong_14 : decode cX5_wrong 14 = .ok (.getfield 12, 3) := by decide +kernel
theorem dX5_wrong_17 : decode cX5_wrong 17 = .ok (.iload_n 1, 1) := by decide +kernel
theorem dX5_wrong_18 : decode cX5_wrong 18 = .ok (.invokevirtual 230, 3) := by decide +kernel
theorem dX5_wrong_21 : decode cX5_wrong 21 = .ok (.aload_n 0, 1) := by decide +kernel
theorem dX5_wrong_22 : decode cX5_wrong 22 = .ok (.getfield 12, 3) := by decide +kernel
theorem dX5_wrong_25 : decode cX5_wrong 25 = .ok (.iload_n 1, 1) := by decide +kernel
theorem dX5_wrong_26 : decode cX5_wrong 26 = .ok (.invokevirtual 227, 3) := by decide +kernel
theorem dX5_wrong_29 : decode cX5_wrong 29 = .ok (.if_icmp .le 5, 3) := by decide +kernel
theorem dX5_wrong_32 : decode cX5_wrong 32 = .ok (.iload_n 1, 1) := by decide +kernel
theorem dX5_wrong_33 : decode cX5_wrong 33 = .ok (.ireturn, 1) := by decide +kernel
theorem dX5_wrong_34 : decode cX5_wrong 34 = .ok (.iinc 1 1, 3) := by decide +kernel
theorem dX5_wrong_37 : decode cX5_wrong 37 = .ok (.goto (-35), 3) := by decide +kernel
theorem dX5_wrong_40 : decode cX5_wrong 40 = .ok (.iconst (-1), 1) := by decide +kernel
theorem dX5_wrong_41 : decode cX5_wrong 41 = .ok (.ireturn, 1) := by decide +kernel
set_option maxRecDepth 20000 in
theorem ggX5_in_X5_isYear : GoodIn wsX5_in wsX5_isYear := goodIn_r _ [7] (by decide +kernel) (by decide +kernel)
set_option maxRecDepth 20000 in
theorem gX5_in_X5_isYear : GoodIn wsX5_in (va_wsS RX5 103 yX5_isYear wsX5_isYear) := goodIn_app (goodIn_of _ (by decide +kernel)) ggX5_in_X5_isYear
set_option maxRecDepth 20000 in
theorem ggX5_in_X5_finding : GoodIn wsX5_in wsX5_finding := goodIn_r _ [11, 12, 53, 54, 55, 56, 57, 58, 59] (by decide +kernel) (by decide +kernel)
set_option maxRecDepth 20000 in
theorem gX5_in_X5_finding : GoodIn wsX5_in (wsV RX5 48 RX5 yX5_finding wsX5_finding) := goodIn_app (goodIn_of _ (by decide +kernel)) ggX5_in_X5_finding
set_option maxRecDepth 20000 in
theorem ggX5_in_X2_earliestOf : GoodIn wsX5_in wsX2_earliestOf := goodIn_r _ [17, 18, 19, 20, 21, 22, 23, 24, 25, 26, 27, 16, 28, 29, 30, 31, 32, 33, 34, 35, 6, 36, 60, 61, 62, 63, 64, 65, 66, 67, 68, 69, 70, 71, 72, 73, 74, 75] (by decide +kernel) (by decide +kernel)
set_option maxRecDepth 20000 in
theorem gX5_in_X2_earliestOf : GoodIn wsX5_in (wsV RX5 230 RX2 yX2_earliestOf wsX2_earliestOf) := goodIn_app (goodIn_of _ (by decide +kernel)) ggX5_in_X2_earliestOf
set_option maxRecDepth 20000 in
theorem ggX5_in_X2_latestOf : GoodIn wsX5_in wsX2_latestOf := goodIn_r _ [40, 18, 19, 41, 42, 43, 23, 44, 45, 46, 47, 16, 48, 29, 49, 50, 51, 52, 30, 35, 6, 36, 31, 32, 33, 34, 60, 61, 62, 63, 64, 65, 66, 67, 68, 69, 70, 71, 72, 73, 74, 75] (by decide +kernel) (by decide +kernel)
set_option maxRecDepth 20000 in
theorem gX5_in_X2_latestOf : GoodIn wsX5_in (wsV RX5 227 RX2 yX2_latestOf wsX2_latestOf) := goodIn_app (goodIn_of _ (by decide +kernel)) ggX5_in_X2_latestOf
theorem dX5_in_0 : decode cX5_in 0 = .ok (.iload_n 1, 1) := by decide +kernel
theorem dX5_in_1 : decode cX5_in 1 = .ok (.invokestatic 103, 3) := by decide +kernel
theorem dX5_in_4 : decode cX5_in 4 = .ok (.ifCond .ne 10, 3) := by decide +kernel
theorem dX5_in_7 : decode cX5_in 7 = .ok (.aload_n 0, 1) := by decide +kernel
theorem dX5_in_8 : decode cX5_in 8 = .ok (.ldc 47, 2) := by decide +kernel
theorem dX5_in_10 : decode cX5_in 10 = .ok (.invokevirtual 48, 3) := by decide +kernel
theorem dX5_in_13 : decode cX5_in 13 = .ok (.ireturn, 1) := by decide +kernel
theorem dX5_in_14 : decode cX5_in 14 = .ok (.iconst 0, 1) := by decide +kernel
theorem dX5_in_15 : decode cX5_in 15 = .ok (.istore_n 2, 1) := by decide +kernel
theorem dX5_in_16 : decode cX5_in 16 = .ok (.iconst 0, 1) := by decide +kernel
theorem dX5_in_17 : decode cX5_in 17 = .ok (.istore_n 3, 1) := by decide +kernel
theorem dX5_in_18 : decode cX5_in 18 = .ok (.iload_n 3, 1) := by decide +kernel
theorem dX5_in_19 : decode cX5_in 19 = .ok (.aload_n 0, 1) := by decide +kernel
theorem dX5_in_20 : decode cX5_in 20 = .ok (.getfield 12, 3) := by decide +kernel
theorem dX5_in_23 : decode cX5_in 23 = .ok (.getfield 52, 3) := by decide +kernel
theorem dX5_in_26 : decode cX5_in 26 = .ok (.if_icmp .ge 36, 3) := by decide +kernel
theorem dX5_in_29 : decode cX5_in 29 = .ok (.aload_n 0, 1) := by decide +kernel
theorem dX5_in_30 : decode cX5_in 30 = .ok (.getfield 12, 3) := by decide +kernel
theorem dX5_in_33 : decode cX5_in 33 = .ok (.iload_n 3, 1) := by decide +kernel
theorem dX5_in_34 : decode cX5_in 34 = .ok (.invokevirtual 230, 3) := by decide +kernel
theorem dX5_in_37 : decode cX5_in 37 = .ok (.iload_n 1, 1) := by decide +kernel
theorem dX5_in_38 : decode cX5_in 38 = .ok (.if_icmp .gt 18, 3) := by decide +kernel
theorem dX5_in_41 : decode cX5_in 41 = .ok (.iload_n 1, 1) := by decide +kernel
theorem dX5_in_42 : decode cX5_in 42 = .ok (.aload_n 0, 1) := by decide +kernel
theorem dX5_in_43 : decode cX5_in 43 = .ok (.getfield 12, 3) := by decide +kernel
theorem dX5_in_46 : decode cX5_in 46 = .ok (.iload_n 3, 1) := by decide +kernel
theorem dX5_in_47 : decode cX5_in 47 = .ok (.invokevirtual 227, 3) := by decide +kernel
theorem dX5_in_50 : decode cX5_in 50 = .ok (.if_icmp .gt 6, 3) := by decide +kernel
theorem dX5_in_53 : decode cX5_in 53 = .ok (.iinc 2 1, 3) := by decide +kernel
theorem dX5_in_56 : decode cX5_in 56 = .ok (.iinc 3 1, 3) := by decide +kernel
theorem dX5_in_59 : decode cX5_in 59 = .ok (.goto (-41), 3) := by decide +kernel
theorem dX5_in_62 : decode cX5_in 62 = .ok (.iload_n 2, 1) := by decide +kernel
theorem dX5_in_63 : decode cX5_in 63 = .ok (.ireturn, 1) := by decide +kernel
set_option maxRecDepth 20000 in
theorem ggX5_used_X5_isGood : GoodIn wsX5_used wsX5_isGood := goodIn_r _ [7] (by decide +kernel) (by decide +kernel)
set_option maxRecDepth 20000 in
theorem gX5_used_X5_isGood : GoodIn wsX5_used (va_wsS RX5 183 yX5_isGood wsX5_isGood) := goodIn_app (goodIn_of _ (by decide +kernel)) ggX5_used_X5_isGood
set_option maxRecDepth 20000 in
theorem ggX5_used_X5_finding : GoodIn wsX5_used wsX5_finding := goodIn_r _ [11, 12, 66, 67, 68, 69, 70, 71, 72] (by decide +kernel) (by decide +kernel)
set_option maxRecDepth 20000 in
theorem gX5_used_X5_finding : GoodIn wsX5_used (wsV RX5 48 RX5 yX5_finding wsX5_finding) := goodIn_app (goodIn_of _ (by decide +kernel)) ggX5_used_X5_finding
set_option maxRecDepth 20000 in
theorem ggX5_used_X2_havers : GoodIn wsX5_used wsX2_havers := goodIn_r _ [17, 18, 19, 20, 21, 6, 22, 73, 74, 75, 76, 77, 78, 79, 80, 81, 82, 83, 84, 85, 86, 87, 88] (by decide +kernel) (by decide +kernel)
set_option maxRecDepth 20000 in
theorem gX5_used_X2_havers : GoodIn wsX5_used (wsV RX5 189 RX2 yX2_havers wsX2_havers) := goodIn_app (goodIn_of _ (by decide +kernel)) ggX5_used_X2_havers
set_option maxRecDepth 20000 in
theorem ggX5_used_X2_greatestLatest : GoodIn wsX5_used wsX2_greatestLatest := goodIn_r _ [26, 18, 27, 28, 29, 30, 21, 6, 22, 31, 32, 33, 16, 34, 19, 35, 36, 37, 38, 39, 40, 41, 42, 43, 44, 45, 46, 47, 48, 49, 50, 51, 52, 73, 74, 75, 76, 77, 78, 79, 80, 81, 82, 83, 84, 85, 86, 87, 88] (by decide +kernel) (by decide +kernel)
set_option maxRecDepth 20000 in
theorem gX5_used_X2_greatestLatest : GoodIn wsX5_used (wsV RX5 233 RX2 yX2_greatestLatest wsX2_greatestLatest) := goodIn_app (goodIn_of _ (by decide +kernel)) ggX5_used_X2_greatestLatest
set_option maxRecDepth 20000 in
theorem ggX5_used_X2_leastEarliest : GoodIn wsX5_used wsX2_leastEarliest := goodIn_r _ [56, 18, 36, 37, 29, 38, 21, 6, 22, 57, 58, 59, 16, 60, 19, 61, 27, 28, 30, 62, 63, 64, 65, 43, 48, 49, 50, 51, 52, 73, 74, 75, 76, 77, 78, 79, 80, 81, 82, 83, 84, 85, 86, 87, 88] (by decide +kernel) (by decide +kernel)
set_option maxRecDepth 20000 in
theorem gX5_used_X2_leastEarliest : GoodIn wsX5_used (wsV RX5 236 RX2 yX2_leastEarliest wsX2_leastEarliest) := goodIn_app (goodIn_of _ (by decide +kernel)) ggX5_used_X2_leastEarliest
theorem dX5_used_0 : decode cX5_used 0 = .ok (.iload_n 1, 1) := by decide +kernel
theorem dX5_used_1 : decode cX5_used 1 = .ok (.invokestatic 183, 3) := by decide +kernel
theorem dX5_used_4 : decode cX5_used 4 = .ok (.ifCond .ne 10, 3) := by decide +kernel
theorem dX5_used_7 : decode cX5_used 7 = .ok (.aload_n 0, 1) := by decide +kernel
theorem dX5_used_8 : decode cX5_used 8 = .ok (.ldc 47, 2) := by decide +kernel
theorem dX5_used_10 : decode cX5_used 10 = .ok (.invokevirtual 48, 3) := by decide +kernel
theorem dX5_used_13 : decode cX5_used 13 = .ok (.ireturn, 1) := by decide +kernel
theorem dX5_used_14 : decode cX5_used 14 = .ok (.aload_n 0, 1) := by decide +kernel
theorem dX5_used_15 : decode cX5_used 15 = .ok (.getfield 12, 3) := by decide +kernel
theorem dX5_used_18 : decode cX5_used 18 = .ok (.iload_n 1, 1) := by decide +kernel
theorem dX5_used_19 : decode cX5_used 19 = .ok (.invokevirtual 189, 3) := by decide +kernel
theorem dX5_used_22 : decode cX5_used 22 = .ok (.istore_n 3, 1) := by decide +kernel
theorem dX5_used_23 : decode cX5_used 23 = .ok (.iload_n 3, 1) := by decide +kernel
theorem dX5_used_24 : decode cX5_used 24 = .ok (.ifCond .ne 10, 3) := by decide +kernel
theorem dX5_used_27 : decode cX5_used 27 = .ok (.aload_n 0, 1) := by decide +kernel
theorem dX5_used_28 : decode cX5_used 28 = .ok (.ldc 125, 2) := by decide +kernel
theorem dX5_used_30 : decode cX5_used 30 = .ok (.invokevirtual 48, 3) := by decide +kernel
theorem dX5_used_33 : decode cX5_used 33 = .ok (.ireturn, 1) := by decide +kernel
theorem dX5_used_34 : decode cX5_used 34 = .ok (.iload_n 2, 1) := by decide +kernel
theorem dX5_used_35 : decode cX5_used 35 = .ok (.ifCond .eq 14, 3) := by decide +kernel
theorem dX5_used_38 : decode cX5_used 38 = .ok (.aload_n 0, 1) := by decide +kernel
theorem dX5_used_39 : decode cX5_used 39 = .ok (.getfield 12, 3) := by decide +kernel
theorem dX5_used_42 : decode cX5_used 42 = .ok (.iload_n 3, 1) := by decide +kernel
theorem dX5_used_43 : decode cX5_used 43 = .ok (.invokevirtual 233, 3) := by decide +kernel
theorem dX5_used_46 : decode cX5_used 46 = .ok (.goto 11, 3) := by decide +kernel
theorem dX5_used_49 : decode cX5_used 49 = .ok (.aload_n 0, 1) := by decide +kernel
theorem dX5_used_50 : decode cX5_used 50 = .ok (.getfield 12, 3) := by decide +kernel
theorem dX5_used_53 : decode cX5_used 53 = .ok (.iload_n 3, 1) := by decide +kernel
theorem dX5_used_54 : decode cX5_used 54 = .ok (.invokevirtual 236, 3) := by decide +kernel
theorem dX5_used_57 : decode cX5_used 57 = .ok (.ireturn, 1) := by decide +kernel
set_option maxRecDepth 20000 in
theorem ggX5_family_X2_holds : GoodIn wsX5_family wsX2_holds := goodIn_r _ [7, 8, 52, 53, 54, 55, 56, 57, 58] (by decide +kernel) (by decide +kernel)
set_option maxRecDepth 20000 in
theorem gX5_family_X2_holds : GoodIn wsX5_family (wsV RX5 61 RX2 yX2_holds wsX2_holds) := goodIn_app (goodIn_of _ (by decide +kernel)) ggX5_family_X2_holds
set_option maxRecDepth 20000 in
theorem ggX5_family_X5_isDistance : GoodIn wsX5_family wsX5_isDistance := goodIn_r _ [12] (by decide +kernel) (by decide +kernel)
set_option maxRecDepth 20000 in
theorem gX5_family_X5_isDistance : GoodIn wsX5_family (va_wsS RX5 44 yX5_isDistance wsX5_isDistance) := goodIn_app (goodIn_of _ (by decide +kernel)) ggX5_family_X5_isDistance
set_option maxRecDepth 20000 in
theorem ggX5_family_X5_finding : GoodIn wsX5_family wsX5_finding := goodIn_r _ [16, 17, 45, 46, 47, 48, 49, 50, 51] (by decide +kernel) (by decide +kernel)
set_option maxRecDepth 20000 in
theorem gX5_family_X5_finding : GoodIn wsX5_family (wsV RX5 48 RX5 yX5_finding wsX5_finding) := goodIn_app (goodIn_of _ (by decide +kernel)) ggX5_family_X5_finding
set_option maxRecDepth 20000 in
theorem ggX5_family_X2_familyOf : GoodIn wsX5_family wsX2_familyOf := goodIn_r _ [21, 8, 22, 23, 24, 25, 6, 26, 27, 28, 29, 30, 31, 32, 33, 34, 35, 36, 37, 38, 39, 40, 41, 42, 43, 11, 44, 52, 53, 54, 55, 56, 57, 58, 59, 60, 61, 62, 63, 64, 65, 66, 67] (by decide +kernel) (by decide +kernel)
set_option maxRecDepth 20000 in
theorem gX5_family_X2_familyOf : GoodIn wsX5_family (wsV RX5 239 RX2 yX2_familyOf wsX2_familyOf) := goodIn_app (goodIn_of _ (by decide +kernel)) ggX5_family_X2_familyOf
theorem dX5_family_0 : decode cX5_family 0 = .ok (.aload_n 0, 1) := by decide +kernel
theorem dX5_family_1 : decode cX5_family 1 = .ok (.getfield 12, 3) := by decide +kernel
theorem dX5_family_4 : decode cX5_family 4 = .ok (.iload_n 1, 1) := by decide +kernel
theorem dX5_family_5 : decode cX5_family 5 = .ok (.invokevirtual 61, 3) := by decide +kernel
theorem dX5_family_8 : decode cX5_family 8 = .ok (.ifCond .eq 10, 3) := by decide +kernel
theorem dX5_family_11 : decode cX5_family 11 = .ok (.iload_n 2, 1) := by decide +kernel
theorem dX5_family_12 : decode cX5_family 12 = .ok (.invokestatic 44, 3) := by decide +kernel
theorem dX5_family_15 : decode cX5_family 15 = .ok (.ifCond .ne 10, 3) := by decide +kernel
theorem dX5_family_18 : decode cX5_family 18 = .ok (.aload_n 0, 1) := by decide +kernel
theorem dX5_family_19 : decode cX5_family 19 = .ok (.ldc 47, 2) := by decide +kernel
theorem dX5_family_21 : decode cX5_family 21 = .ok (.invokevirtual 48, 3) := by decide +kernel
theorem dX5_family_24 : decode cX5_family 24 = .ok (.ireturn, 1) := by decide +kernel
theorem dX5_family_25 : decode cX5_family 25 = .ok (.aload_n 0, 1) := by decide +kernel
theorem dX5_family_26 : decode cX5_family 26 = .ok (.getfield 12, 3) := by decide +kernel
theorem dX5_family_29 : decode cX5_family 29 = .ok (.iload_n 1, 1) := by decide +kernel
theorem dX5_family_30 : decode cX5_family 30 = .ok (.iload_n 2, 1) := by decide +kernel
theorem dX5_family_31 : decode cX5_family 31 = .ok (.invokevirtual 239, 3) := by decide +kernel
theorem dX5_family_34 : decode cX5_family 34 = .ok (.ireturn, 1) := by decide +kernel
set_option maxRecDepth 20000 in
theorem ggX5_families_X5_isDistance : GoodIn wsX5_families wsX5_isDistance := goodIn_r _ [7] (by decide +kernel) (by decide +kernel)
set_option maxRecDepth 20000 in
theorem gX5_families_X5_isDistance : GoodIn wsX5_families (va_wsS RX5 44 yX5_isDistance wsX5_isDistance) := goodIn_app (goodIn_of _ (by decide +kernel)) ggX5_families_X5_isDistance
set_option maxRecDepth 20000 in
theorem ggX5_families_X5_finding : GoodIn wsX5_families wsX5_finding := goodIn_r _ [11, 12, 42, 43, 44, 45, 46, 47, 48] (by decide +kernel) (by decide +kernel)
set_option maxRecDepth 20000 in
theorem gX5_families_X5_finding : GoodIn wsX5_families (wsV RX5 48 RX5 yX5_finding wsX5_finding) := goodIn_app (goodIn_of _ (by decide +kernel)) ggX5_families_X5_finding
set_option maxRecDepth 20000 in
theorem ggX5_families_X2_familyOf : GoodIn wsX5_families wsX2_familyOf := goodIn_r _ [17, 18, 19, 20, 21, 22, 16, 23, 24, 25, 26, 27, 28, 29, 30, 31, 32, 33, 34, 35, 36, 37, 38, 39, 40, 6, 41, 49, 50, 51, 52, 53, 54, 55, 56, 57, 58, 59, 60, 61, 62, 63, 64] (by decide +kernel) (by decide +kernel)
set_option maxRecDepth 20000 in
theorem gX5_families_X2_familyOf : GoodIn wsX5_families (wsV RX5 239 RX2 yX2_familyOf wsX2_familyOf) := goodIn_app (goodIn_of _ (by decide +kernel)) ggX5_families_X2_familyOf
theorem dX5_families_0 : decode cX5_families 0 = .ok (.iload_n 1, 1) := by decide +kernel
theorem dX5_families_1 : decode cX5_families 1 = .ok (.invokestatic 44, 3) := by decide +kernel
theorem dX5_families_4 : decode cX5_families 4 = .ok (.ifCond .ne 10, 3) := by decide +kernel
theorem dX5_families_7 : decode cX5_families 7 = .ok (.aload_n 0, 1) := by decide +kernel
theorem dX5_families_8 : decode cX5_families 8 = .ok (.ldc 47, 2) := by decide +kernel
theorem dX5_families_10 : decode cX5_families 10 = .ok (.invokevirtual 48, 3) := by decide +kernel
theorem dX5_families_13 : decode cX5_families 13 = .ok (.ireturn, 1) := by decide +kernel
theorem dX5_families_14 : decode cX5_families 14 = .ok (.iconst 0, 1) := by decide +kernel
theorem dX5_families_15 : decode cX5_families 15 = .ok (.istore_n 2, 1) := by decide +kernel
theorem dX5_families_16 : decode cX5_families 16 = .ok (.iconst 0, 1) := by decide +kernel
theorem dX5_families_17 : decode cX5_families 17 = .ok (.istore_n 3, 1) := by decide +kernel
theorem dX5_families_18 : decode cX5_families 18 = .ok (.iload_n 3, 1) := by decide +kernel
theorem dX5_families_19 : decode cX5_families 19 = .ok (.aload_n 0, 1) := by decide +kernel
theorem dX5_families_20 : decode cX5_families 20 = .ok (.getfield 12, 3) := by decide +kernel
theorem dX5_families_23 : decode cX5_families 23 = .ok (.getfield 52, 3) := by decide +kernel
theorem dX5_families_26 : decode cX5_families 26 = .ok (.if_icmp .ge 25, 3) := by decide +kernel
theorem dX5_families_29 : decode cX5_families 29 = .ok (.aload_n 0, 1) := by decide +kernel
theorem dX5_families_30 : decode cX5_families 30 = .ok (.getfield 12, 3) := by decide +kernel
theorem dX5_families_33 : decode cX5_families 33 = .ok (.iload_n 3, 1) := by decide +kernel
theorem dX5_families_34 : decode cX5_families 34 = .ok (.iload_n 1, 1) := by decide +kernel
theorem dX5_families_35 : decode cX5_families 35 = .ok (.invokevirtual 239, 3) := by decide +kernel
theorem dX5_families_38 : decode cX5_families 38 = .ok (.iload_n 3, 1) := by decide +kernel
theorem dX5_families_39 : decode cX5_families 39 = .ok (.if_icmp .ne 6, 3) := by decide +kernel
theorem dX5_families_42 : decode cX5_families 42 = .ok (.iinc 2 1, 3) := by decide +kernel
theorem dX5_families_45 : decode cX5_families 45 = .ok (.iinc 3 1, 3) := by decide +kernel
theorem dX5_families_48 : decode cX5_families 48 = .ok (.goto (-30), 3) := by decide +kernel
theorem dX5_families_51 : decode cX5_families 51 = .ok (.iload_n 2, 1) := by decide +kernel
theorem dX5_families_52 : decode cX5_families 52 = .ok (.ireturn, 1) := by decide +kernel
set_option maxRecDepth 20000 in
theorem ggX5_like_X2_holds : GoodIn wsX5_like wsX2_holds := goodIn_r _ [7, 8, 46, 47, 48, 49, 50, 51, 52] (by decide +kernel) (by decide +kernel)
set_option maxRecDepth 20000 in
theorem gX5_like_X2_holds : GoodIn wsX5_like (wsV RX5 61 RX2 yX2_holds wsX2_holds) := goodIn_app (goodIn_of _ (by decide +kernel)) ggX5_like_X2_holds
set_option maxRecDepth 20000 in
theorem ggX5_like_X5_finding : GoodIn wsX5_like wsX5_finding := goodIn_r _ [13, 14, 39, 40, 41, 42, 43, 44, 45] (by decide +kernel) (by decide +kernel)
set_option maxRecDepth 20000 in
theorem gX5_like_X5_finding : GoodIn wsX5_like (wsV RX5 48 RX5 yX5_finding wsX5_finding) := goodIn_app (goodIn_of _ (by decide +kernel)) ggX5_like_X5_finding
set_option maxRecDepth 20000 in
theorem ggX5_like_X2_sharedGoods : GoodIn wsX5_like wsX2_sharedGoods := goodIn_r _ [18, 19, 20, 21, 22, 23, 24, 25, 26, 27, 46, 47, 48, 49, 50, 51, 52, 53, 54, 55, 56, 57, 58, 59, 60, 61] (by decide +kernel) (by decide +kernel)
end
section
set_option maxRecDepth 20000 in
theorem gX5_like_X2_sharedGoods : GoodIn wsX5_like (wsV RX5 242 RX2 yX2_sharedGoods wsX2_sharedGoods) := goodIn_app (goodIn_of _ (by decide +kernel)) ggX5_like_X2_sharedGoods
set_option maxRecDepth 20000 in
theorem ggX5_like_X2_joinedGoods : GoodIn wsX5_like wsX2_joinedGoods := goodIn_r _ [31, 19, 20, 32, 33, 34, 35, 21, 22, 23, 24, 25, 26, 27, 46, 47, 48, 49, 50, 51, 52, 53, 54, 55, 56, 57, 58, 59, 60, 61] (by decide +kernel) (by decide +kernel)
set_option maxRecDepth 20000 in
theorem gX5_like_X2_joinedGoods : GoodIn wsX5_like (wsV RX5 245 RX2 yX2_joinedGoods wsX2_joinedGoods) := goodIn_app (goodIn_of _ (by decide +kernel)) ggX5_like_X2_joinedGoods
set_option maxRecDepth 20000 in
theorem ggX5_like_X5_commonDivisor : GoodIn wsX5_like wsX5_commonDivisor := goodIn_r _ [38] (by decide +kernel) (by decide +kernel)
set_option maxRecDepth 20000 in
theorem gX5_like_X5_commonDivisor : GoodIn wsX5_like (va_wsS RX5 248 yX5_commonDivisor wsX5_commonDivisor) := goodIn_app (goodIn_of _ (by decide +kernel)) ggX5_like_X5_commonDivisor
theorem dX5_like_0 : decode cX5_like 0 = .ok (.aload_n 0, 1) := by decide +kernel
theorem dX5_like_1 : decode cX5_like 1 = .ok (.getfield 12, 3) := by decide +kernel
theorem dX5_like_4 : decode cX5_like 4 = .ok (.iload_n 1, 1) := by decide +kernel
theorem dX5_like_5 : decode cX5_like 5 = .ok (.invokevirtual 61, 3) := by decide +kernel
theorem dX5_like_8 : decode cX5_like 8 = .ok (.ifCond .eq 14, 3) := by decide +kernel
theorem dX5_like_11 : decode cX5_like 11 = .ok (.aload_n 0, 1) := by decide +kernel
theorem dX5_like_12 : decode cX5_like 12 = .ok (.getfield 12, 3) := by decide +kernel
theorem dX5_like_15 : decode cX5_like 15 = .ok (.iload_n 2, 1) := by decide +kernel
theorem dX5_like_16 : decode cX5_like 16 = .ok (.invokevirtual 61, 3) := by decide +kernel
theorem dX5_like_19 : decode cX5_like 19 = .ok (.ifCond .ne 10, 3) := by decide +kernel
theorem dX5_like_22 : decode cX5_like 22 = .ok (.aload_n 0, 1) := by decide +kernel
theorem dX5_like_23 : decode cX5_like 23 = .ok (.ldc 47, 2) := by decide +kernel
theorem dX5_like_25 : decode cX5_like 25 = .ok (.invokevirtual 48, 3) := by decide +kernel
theorem dX5_like_28 : decode cX5_like 28 = .ok (.ireturn, 1) := by decide +kernel
theorem dX5_like_29 : decode cX5_like 29 = .ok (.aload_n 0, 1) := by decide +kernel
theorem dX5_like_30 : decode cX5_like 30 = .ok (.getfield 12, 3) := by decide +kernel
theorem dX5_like_33 : decode cX5_like 33 = .ok (.iload_n 1, 1) := by decide +kernel
theorem dX5_like_34 : decode cX5_like 34 = .ok (.iload_n 2, 1) := by decide +kernel
theorem dX5_like_35 : decode cX5_like 35 = .ok (.invokevirtual 242, 3) := by decide +kernel
theorem dX5_like_38 : decode cX5_like 38 = .ok (.istore 4, 2) := by decide +kernel
theorem dX5_like_40 : decode cX5_like 40 = .ok (.aload_n 0, 1) := by decide +kernel
theorem dX5_like_41 : decode cX5_like 41 = .ok (.getfield 12, 3) := by decide +kernel
theorem dX5_like_44 : decode cX5_like 44 = .ok (.iload_n 1, 1) := by decide +kernel
theorem dX5_like_45 : decode cX5_like 45 = .ok (.iload_n 2, 1) := by decide +kernel
theorem dX5_like_46 : decode cX5_like 46 = .ok (.invokevirtual 245, 3) := by decide +kernel
theorem dX5_like_49 : decode cX5_like 49 = .ok (.istore 5, 2) := by decide +kernel
theorem dX5_like_51 : decode cX5_like 51 = .ok (.iload 4, 2) := by decide +kernel
theorem dX5_like_53 : decode cX5_like 53 = .ok (.iload 5, 2) := by decide +kernel
theorem dX5_like_55 : decode cX5_like 55 = .ok (.invokestatic 248, 3) := by decide +kernel
theorem dX5_like_58 : decode cX5_like 58 = .ok (.istore 6, 2) := by decide +kernel
theorem dX5_like_60 : decode cX5_like 60 = .ok (.iload_n 3, 1) := by decide +kernel
theorem dX5_like_61 : decode cX5_like 61 = .ok (.ifCond .eq 8, 3) := by decide +kernel
theorem dX5_like_64 : decode cX5_like 64 = .ok (.iload 5, 2) := by decide +kernel
theorem dX5_like_66 : decode cX5_like 66 = .ok (.goto 5, 3) := by decide +kernel
theorem dX5_like_69 : decode cX5_like 69 = .ok (.iload 4, 2) := by decide +kernel
theorem dX5_like_71 : decode cX5_like 71 = .ok (.iload 6, 2) := by decide +kernel
theorem dX5_like_73 : decode cX5_like 73 = .ok (.idiv, 1) := by decide +kernel
theorem dX5_like_74 : decode cX5_like 74 = .ok (.ireturn, 1) := by decide +kernel
set_option maxRecDepth 20000 in
theorem ggX5_nearest_X2_holds : GoodIn wsX5_nearest wsX2_holds := goodIn_r _ [9, 10, 49, 50, 51, 52, 53, 54, 55] (by decide +kernel) (by decide +kernel)
set_option maxRecDepth 20000 in
theorem gX5_nearest_X2_holds : GoodIn wsX5_nearest (wsV RX5 61 RX2 yX2_holds wsX2_holds) := goodIn_app (goodIn_of _ (by decide +kernel)) ggX5_nearest_X2_holds
set_option maxRecDepth 20000 in
theorem ggX5_nearest_X5_finding : GoodIn wsX5_nearest wsX5_finding := goodIn_r _ [15, 16, 42, 43, 44, 45, 46, 47, 48] (by decide +kernel) (by decide +kernel)
set_option maxRecDepth 20000 in
theorem gX5_nearest_X5_finding : GoodIn wsX5_nearest (wsV RX5 48 RX5 yX5_finding wsX5_finding) := goodIn_app (goodIn_of _ (by decide +kernel)) ggX5_nearest_X5_finding
set_option maxRecDepth 20000 in
theorem ggX5_nearest_X2_mostLike : GoodIn wsX5_nearest wsX2_mostLike := goodIn_r _ [20, 10, 21, 22, 23, 8, 24, 25, 26, 27, 28, 29, 30, 31, 32, 33, 34, 35, 36, 37, 38, 39, 40, 41, 49, 50, 51, 52, 53, 54, 55, 56, 57, 58, 59, 60, 61, 62, 63, 64] (by decide +kernel) (by decide +kernel)
set_option maxRecDepth 20000 in
theorem gX5_nearest_X2_mostLike : GoodIn wsX5_nearest (wsV RX5 251 RX2 yX2_mostLike wsX2_mostLike) := goodIn_app (goodIn_of _ (by decide +kernel)) ggX5_nearest_X2_mostLike
theorem dX5_nearest_0 : decode cX5_nearest 0 = .ok (.aload_n 0, 1) := by decide +kernel
theorem dX5_nearest_1 : decode cX5_nearest 1 = .ok (.getfield 12, 3) := by decide +kernel
theorem dX5_nearest_4 : decode cX5_nearest 4 = .ok (.iload_n 1, 1) := by decide +kernel
theorem dX5_nearest_5 : decode cX5_nearest 5 = .ok (.invokevirtual 61, 3) := by decide +kernel
theorem dX5_nearest_8 : decode cX5_nearest 8 = .ok (.ifCond .ne 10, 3) := by decide +kernel
theorem dX5_nearest_11 : decode cX5_nearest 11 = .ok (.aload_n 0, 1) := by decide +kernel
theorem dX5_nearest_12 : decode cX5_nearest 12 = .ok (.ldc 47, 2) := by decide +kernel
theorem dX5_nearest_14 : decode cX5_nearest 14 = .ok (.invokevirtual 48, 3) := by decide +kernel
theorem dX5_nearest_17 : decode cX5_nearest 17 = .ok (.ireturn, 1) := by decide +kernel
theorem dX5_nearest_18 : decode cX5_nearest 18 = .ok (.aload_n 0, 1) := by decide +kernel
theorem dX5_nearest_19 : decode cX5_nearest 19 = .ok (.getfield 12, 3) := by decide +kernel
theorem dX5_nearest_22 : decode cX5_nearest 22 = .ok (.getfield 52, 3) := by decide +kernel
theorem dX5_nearest_25 : decode cX5_nearest 25 = .ok (.iconst 2, 1) := by decide +kernel
theorem dX5_nearest_26 : decode cX5_nearest 26 = .ok (.if_icmp .ge 10, 3) := by decide +kernel
theorem dX5_nearest_29 : decode cX5_nearest 29 = .ok (.aload_n 0, 1) := by decide +kernel
theorem dX5_nearest_30 : decode cX5_nearest 30 = .ok (.ldc 125, 2) := by decide +kernel
theorem dX5_nearest_32 : decode cX5_nearest 32 = .ok (.invokevirtual 48, 3) := by decide +kernel
theorem dX5_nearest_35 : decode cX5_nearest 35 = .ok (.ireturn, 1) := by decide +kernel
theorem dX5_nearest_36 : decode cX5_nearest 36 = .ok (.aload_n 0, 1) := by decide +kernel
theorem dX5_nearest_37 : decode cX5_nearest 37 = .ok (.getfield 12, 3) := by decide +kernel
theorem dX5_nearest_40 : decode cX5_nearest 40 = .ok (.iload_n 1, 1) := by decide +kernel
theorem dX5_nearest_41 : decode cX5_nearest 41 = .ok (.invokevirtual 251, 3) := by decide +kernel
theorem dX5_nearest_44 : decode cX5_nearest 44 = .ok (.ireturn, 1) := by decide +kernel
set_option maxRecDepth 20000 in
theorem ggX5_mark_X2_holds : GoodIn wsX5_mark wsX2_holds := goodIn_r _ [8, 9, 33, 34, 35, 36, 37, 38, 39] (by decide +kernel) (by decide +kernel)
set_option maxRecDepth 20000 in
theorem gX5_mark_X2_holds : GoodIn wsX5_mark (wsV RX5 61 RX2 yX2_holds wsX2_holds) := goodIn_app (goodIn_of _ (by decide +kernel)) ggX5_mark_X2_holds
set_option maxRecDepth 20000 in
theorem ggX5_mark_X5_isMark : GoodIn wsX5_mark wsX5_isMark := goodIn_r _ [13] (by decide +kernel) (by decide +kernel)
set_option maxRecDepth 20000 in
theorem gX5_mark_X5_isMark : GoodIn wsX5_mark (va_wsS RX5 254 yX5_isMark wsX5_isMark) := goodIn_app (goodIn_of _ (by decide +kernel)) ggX5_mark_X5_isMark
set_option maxRecDepth 20000 in
theorem ggX5_mark_X5_finding : GoodIn wsX5_mark wsX5_finding := goodIn_r _ [17, 18, 26, 27, 28, 29, 30, 31, 32] (by decide +kernel) (by decide +kernel)
set_option maxRecDepth 20000 in
theorem gX5_mark_X5_finding : GoodIn wsX5_mark (wsV RX5 48 RX5 yX5_finding wsX5_finding) := goodIn_app (goodIn_of _ (by decide +kernel)) ggX5_mark_X5_finding
set_option maxRecDepth 20000 in
theorem ggX5_mark_X1_setMark : GoodIn wsX5_mark wsX1_setMark := goodIn_r _ [23, 24, 25, 40, 41, 42, 43, 44, 45, 46, 47, 48] (by decide +kernel) (by decide +kernel)
set_option maxRecDepth 20000 in
theorem gX5_mark_X1_setMark : GoodIn wsX5_mark (wsV RX5 257 RX1 yX1_setMark wsX1_setMark) := goodIn_app (goodIn_of _ (by decide +kernel)) ggX5_mark_X1_setMark
theorem dX5_mark_0 : decode cX5_mark 0 = .ok (.aload_n 0, 1) := by decide +kernel
theorem dX5_mark_1 : decode cX5_mark 1 = .ok (.getfield 12, 3) := by decide +kernel
theorem dX5_mark_4 : decode cX5_mark 4 = .ok (.iload_n 1, 1) := by decide +kernel
theorem dX5_mark_5 : decode cX5_mark 5 = .ok (.invokevirtual 61, 3) := by decide +kernel
theorem dX5_mark_8 : decode cX5_mark 8 = .ok (.ifCond .eq 10, 3) := by decide +kernel
theorem dX5_mark_11 : decode cX5_mark 11 = .ok (.iload_n 2, 1) := by decide +kernel
theorem dX5_mark_12 : decode cX5_mark 12 = .ok (.invokestatic 254, 3) := by decide +kernel
theorem dX5_mark_15 : decode cX5_mark 15 = .ok (.ifCond .ne 10, 3) := by decide +kernel
theorem dX5_mark_18 : decode cX5_mark 18 = .ok (.aload_n 0, 1) := by decide +kernel
theorem dX5_mark_19 : decode cX5_mark 19 = .ok (.ldc 47, 2) := by decide +kernel
theorem dX5_mark_21 : decode cX5_mark 21 = .ok (.invokevirtual 48, 3) := by decide +kernel
theorem dX5_mark_24 : decode cX5_mark 24 = .ok (.ireturn, 1) := by decide +kernel
theorem dX5_mark_25 : decode cX5_mark 25 = .ok (.aload_n 0, 1) := by decide +kernel
theorem dX5_mark_26 : decode cX5_mark 26 = .ok (.getfield 12, 3) := by decide +kernel
theorem dX5_mark_29 : decode cX5_mark 29 = .ok (.getfield 64, 3) := by decide +kernel
theorem dX5_mark_32 : decode cX5_mark 32 = .ok (.iload_n 1, 1) := by decide +kernel
theorem dX5_mark_33 : decode cX5_mark 33 = .ok (.aaload, 1) := by decide +kernel
theorem dX5_mark_34 : decode cX5_mark 34 = .ok (.iload_n 2, 1) := by decide +kernel
theorem dX5_mark_35 : decode cX5_mark 35 = .ok (.iload_n 3, 1) := by decide +kernel
theorem dX5_mark_36 : decode cX5_mark 36 = .ok (.invokevirtual 257, 3) := by decide +kernel
theorem dX5_mark_39 : decode cX5_mark 39 = .ok (.ifCond .eq 7, 3) := by decide +kernel
theorem dX5_mark_42 : decode cX5_mark 42 = .ok (.iconst 1, 1) := by decide +kernel
theorem dX5_mark_43 : decode cX5_mark 43 = .ok (.goto 4, 3) := by decide +kernel
theorem dX5_mark_46 : decode cX5_mark 46 = .ok (.iconst 0, 1) := by decide +kernel
theorem dX5_mark_47 : decode cX5_mark 47 = .ok (.ireturn, 1) := by decide +kernel
set_option maxRecDepth 20000 in
theorem ggX5_weigh_X5_isMark : GoodIn wsX5_weigh wsX5_isMark := goodIn_r _ [6] (by decide +kernel) (by decide +kernel)
set_option maxRecDepth 20000 in
theorem gX5_weigh_X5_isMark : GoodIn wsX5_weigh (va_wsS RX5 254 yX5_isMark wsX5_isMark) := goodIn_app (goodIn_of _ (by decide +kernel)) ggX5_weigh_X5_isMark
set_option maxRecDepth 20000 in
theorem ggX5_weigh_X5_finding : GoodIn wsX5_weigh wsX5_finding := goodIn_r _ [10, 11, 19, 20, 21, 22, 23, 24, 25] (by decide +kernel) (by decide +kernel)
set_option maxRecDepth 20000 in
theorem gX5_weigh_X5_finding : GoodIn wsX5_weigh (wsV RX5 48 RX5 yX5_finding wsX5_finding) := goodIn_app (goodIn_of _ (by decide +kernel)) ggX5_weigh_X5_finding
set_option maxRecDepth 20000 in
theorem ggX5_weigh_X2_weightsFor : GoodIn wsX5_weigh wsX2_weightsFor := goodIn_r _ [16, 17, 18, 26, 27, 28, 29, 30, 31, 32] (by decide +kernel) (by decide +kernel)
set_option maxRecDepth 20000 in
theorem gX5_weigh_X2_weightsFor : GoodIn wsX5_weigh (wsV RX5 261 RX2 yX2_weightsFor wsX2_weightsFor) := goodIn_app (goodIn_of _ (by decide +kernel)) ggX5_weigh_X2_weightsFor
theorem dX5_weigh_0 : decode cX5_weigh 0 = .ok (.iload_n 1, 1) := by decide +kernel
theorem dX5_weigh_1 : decode cX5_weigh 1 = .ok (.invokestatic 254, 3) := by decide +kernel
theorem dX5_weigh_4 : decode cX5_weigh 4 = .ok (.ifCond .eq 14, 3) := by decide +kernel
theorem dX5_weigh_7 : decode cX5_weigh 7 = .ok (.iload_n 3, 1) := by decide +kernel
theorem dX5_weigh_8 : decode cX5_weigh 8 = .ok (.iconst 1, 1) := by decide +kernel
theorem dX5_weigh_9 : decode cX5_weigh 9 = .ok (.if_icmp .lt 9, 3) := by decide +kernel
theorem dX5_weigh_12 : decode cX5_weigh 12 = .ok (.iload_n 3, 1) := by decide +kernel
theorem dX5_weigh_13 : decode cX5_weigh 13 = .ok (.bipush 20, 2) := by decide +kernel
theorem dX5_weigh_15 : decode cX5_weigh 15 = .ok (.if_icmp .le 10, 3) := by decide +kernel
theorem dX5_weigh_18 : decode cX5_weigh 18 = .ok (.aload_n 0, 1) := by decide +kernel
theorem dX5_weigh_19 : decode cX5_weigh 19 = .ok (.ldc 47, 2) := by decide +kernel
theorem dX5_weigh_21 : decode cX5_weigh 21 = .ok (.invokevirtual 48, 3) := by decide +kernel
theorem dX5_weigh_24 : decode cX5_weigh 24 = .ok (.ireturn, 1) := by decide +kernel
theorem dX5_weigh_25 : decode cX5_weigh 25 = .ok (.aload_n 0, 1) := by decide +kernel
theorem dX5_weigh_26 : decode cX5_weigh 26 = .ok (.getfield 12, 3) := by decide +kernel
theorem dX5_weigh_29 : decode cX5_weigh 29 = .ok (.iload_n 2, 1) := by decide +kernel
theorem dX5_weigh_30 : decode cX5_weigh 30 = .ok (.invokevirtual 261, 3) := by decide +kernel
theorem dX5_weigh_33 : decode cX5_weigh 33 = .ok (.astore 4, 2) := by decide +kernel
theorem dX5_weigh_35 : decode cX5_weigh 35 = .ok (.aload 4, 2) := by decide +kernel
theorem dX5_weigh_37 : decode cX5_weigh 37 = .ok (.iload_n 1, 1) := by decide +kernel
theorem dX5_weigh_38 : decode cX5_weigh 38 = .ok (.iaload, 1) := by decide +kernel
theorem dX5_weigh_39 : decode cX5_weigh 39 = .ok (.istore 5, 2) := by decide +kernel
theorem dX5_weigh_41 : decode cX5_weigh 41 = .ok (.aload 4, 2) := by decide +kernel
theorem dX5_weigh_43 : decode cX5_weigh 43 = .ok (.iload_n 1, 1) := by decide +kernel
theorem dX5_weigh_44 : decode cX5_weigh 44 = .ok (.iload_n 3, 1) := by decide +kernel
theorem dX5_weigh_45 : decode cX5_weigh 45 = .ok (.iastore, 1) := by decide +kernel
theorem dX5_weigh_46 : decode cX5_weigh 46 = .ok (.iload 5, 2) := by decide +kernel
theorem dX5_weigh_48 : decode cX5_weigh 48 = .ok (.ireturn, 1) := by decide +kernel
set_option maxRecDepth 20000 in
theorem ggX5_share_X2_holds : GoodIn wsX5_share wsX2_holds := goodIn_r _ [9, 10, 46, 47, 48, 49, 50, 51, 52] (by decide +kernel) (by decide +kernel)
set_option maxRecDepth 20000 in
theorem gX5_share_X2_holds : GoodIn wsX5_share (wsV RX5 61 RX2 yX2_holds wsX2_holds) := goodIn_app (goodIn_of _ (by decide +kernel)) ggX5_share_X2_holds
set_option maxRecDepth 20000 in
theorem ggX5_share_X5_finding : GoodIn wsX5_share wsX5_finding := goodIn_r _ [15, 16, 39, 40, 41, 42, 43, 44, 45] (by decide +kernel) (by decide +kernel)
set_option maxRecDepth 20000 in
theorem gX5_share_X5_finding : GoodIn wsX5_share (wsV RX5 48 RX5 yX5_finding wsX5_finding) := goodIn_app (goodIn_of _ (by decide +kernel)) ggX5_share_X5_finding
set_option maxRecDepth 20000 in
theorem ggX5_share_X1_isOfKind : GoodIn wsX5_share wsX1_isOfKind := goodIn_r _ [21, 22, 23, 53, 54, 55, 56, 57, 58, 59, 60, 61] (by decide +kernel) (by decide +kernel)
set_option maxRecDepth 20000 in
theorem gX5_share_X1_isOfKind : GoodIn wsX5_share (wsV RX5 68 RX1 yX1_isOfKind wsX1_isOfKind) := goodIn_app (goodIn_of _ (by decide +kernel)) ggX5_share_X1_isOfKind
set_option maxRecDepth 20000 in
theorem ggX5_share_X2_productOfMarks : GoodIn wsX5_share wsX2_productOfMarks := goodIn_r _ [27, 28, 29, 30, 31, 32, 33, 8, 34, 35, 36, 37, 14, 38, 46, 47, 48, 49, 50, 51, 52, 53, 54, 55, 56, 57, 58, 59, 60, 61] (by decide +kernel) (by decide +kernel)
set_option maxRecDepth 20000 in
theorem gX5_share_X2_productOfMarks : GoodIn wsX5_share (wsV RX5 265 RX2 yX2_productOfMarks wsX2_productOfMarks) := goodIn_app (goodIn_of _ (by decide +kernel)) ggX5_share_X2_productOfMarks
theorem dX5_share_0 : decode cX5_share 0 = .ok (.aload_n 0, 1) := by decide +kernel
theorem dX5_share_1 : decode cX5_share 1 = .ok (.getfield 12, 3) := by decide +kernel
theorem dX5_share_4 : decode cX5_share 4 = .ok (.iload_n 1, 1) := by decide +kernel
theorem dX5_share_5 : decode cX5_share 5 = .ok (.invokevirtual 61, 3) := by decide +kernel
theorem dX5_share_8 : decode cX5_share 8 = .ok (.ifCond .ne 11, 3) := by decide +kernel
theorem dX5_share_11 : decode cX5_share 11 = .ok (.aload_n 0, 1) := by decide +kernel
theorem dX5_share_12 : decode cX5_share 12 = .ok (.ldc 47, 2) := by decide +kernel
theorem dX5_share_14 : decode cX5_share 14 = .ok (.invokevirtual 48, 3) := by decide +kernel
theorem dX5_share_17 : decode cX5_share 17 = .ok (.i2l, 1) := by decide +kernel
theorem dX5_share_18 : decode cX5_share 18 = .ok (.lreturn, 1) := by decide +kernel
theorem dX5_share_19 : decode cX5_share 19 = .ok (.aload_n 0, 1) := by decide +kernel
theorem dX5_share_20 : decode cX5_share 20 = .ok (.getfield 12, 3) := by decide +kernel
theorem dX5_share_23 : decode cX5_share 23 = .ok (.getfield 64, 3) := by decide +kernel
theorem dX5_share_26 : decode cX5_share 26 = .ok (.iload_n 1, 1) := by decide +kernel
theorem dX5_share_27 : decode cX5_share 27 = .ok (.aaload, 1) := by decide +kernel
theorem dX5_share_28 : decode cX5_share 28 = .ok (.iconst 2, 1) := by decide +kernel
theorem dX5_share_29 : decode cX5_share 29 = .ok (.invokevirtual 68, 3) := by decide +kernel
theorem dX5_share_32 : decode cX5_share 32 = .ok (.ifCond .eq 11, 3) := by decide +kernel
theorem dX5_share_35 : decode cX5_share 35 = .ok (.aload_n 0, 1) := by decide +kernel
theorem dX5_share_36 : decode cX5_share 36 = .ok (.ldc 73, 2) := by decide +kernel
theorem dX5_share_38 : decode cX5_share 38 = .ok (.invokevirtual 48, 3) := by decide +kernel
theorem dX5_share_41 : decode cX5_share 41 = .ok (.i2l, 1) := by decide +kernel
theorem dX5_share_42 : decode cX5_share 42 = .ok (.lreturn, 1) := by decide +kernel
theorem dX5_share_43 : decode cX5_share 43 = .ok (.aload_n 0, 1) := by decide +kernel
theorem dX5_share_44 : decode cX5_share 44 = .ok (.getfield 12, 3) := by decide +kernel
theorem dX5_share_47 : decode cX5_share 47 = .ok (.iload_n 1, 1) := by decide +kernel
theorem dX5_share_48 : decode cX5_share 48 = .ok (.iload_n 2, 1) := by decide +kernel
theorem dX5_share_49 : decode cX5_share 49 = .ok (.invokevirtual 265, 3) := by decide +kernel
theorem dX5_share_52 : decode cX5_share 52 = .ok (.lreturn, 1) := by decide +kernel
set_option maxRecDepth 20000 in
theorem ggX5_people_X5_finding : GoodIn wsX5_people wsX5_finding := goodIn_r _ [8, 9, 37, 38, 39, 40, 41, 42, 43] (by decide +kernel) (by decide +kernel)
set_option maxRecDepth 20000 in
theorem gX5_people_X5_finding : GoodIn wsX5_people (wsV RX5 48 RX5 yX5_finding wsX5_finding) := goodIn_app (goodIn_of _ (by decide +kernel)) ggX5_people_X5_finding
set_option maxRecDepth 20000 in
theorem ggX5_people_X2_whose : GoodIn wsX5_people wsX2_whose := goodIn_r _ [14, 15, 16, 17, 18, 19, 20, 21, 22, 23, 24, 25, 13, 26, 27, 28, 29, 30, 31, 32, 33, 34, 35, 7, 36, 44, 45, 46, 47, 48, 49, 50, 51, 52, 53, 54, 55, 56, 57, 58, 59] (by decide +kernel) (by decide +kernel)
set_option maxRecDepth 20000 in
theorem gX5_people_X2_whose : GoodIn wsX5_people (wsV RX5 269 RX2 yX2_whose wsX2_whose) := goodIn_app (goodIn_of _ (by decide +kernel)) ggX5_people_X2_whose
theorem dX5_people_0 : decode cX5_people 0 = .ok (.iload_n 1, 1) := by decide +kernel
theorem dX5_people_1 : decode cX5_people 1 = .ok (.ifCond .lt 8, 3) := by decide +kernel
theorem dX5_people_4 : decode cX5_people 4 = .ok (.iload_n 1, 1) := by decide +kernel
theorem dX5_people_5 : decode cX5_people 5 = .ok (.iconst 2, 1) := by decide +kernel
theorem dX5_people_6 : decode cX5_people 6 = .ok (.if_icmp .le 10, 3) := by decide +kernel
theorem dX5_people_9 : decode cX5_people 9 = .ok (.aload_n 0, 1) := by decide +kernel
theorem dX5_people_10 : decode cX5_people 10 = .ok (.ldc 47, 2) := by decide +kernel
theorem dX5_people_12 : decode cX5_people 12 = .ok (.invokevirtual 48, 3) := by decide +kernel
theorem dX5_people_15 : decode cX5_people 15 = .ok (.ireturn, 1) := by decide +kernel
theorem dX5_people_16 : decode cX5_people 16 = .ok (.iconst 0, 1) := by decide +kernel
theorem dX5_people_17 : decode cX5_people 17 = .ok (.istore_n 2, 1) := by decide +kernel
theorem dX5_people_18 : decode cX5_people 18 = .ok (.iconst 0, 1) := by decide +kernel
theorem dX5_people_19 : decode cX5_people 19 = .ok (.istore_n 3, 1) := by decide +kernel
theorem dX5_people_20 : decode cX5_people 20 = .ok (.iload_n 3, 1) := by decide +kernel
theorem dX5_people_21 : decode cX5_people 21 = .ok (.aload_n 0, 1) := by decide +kernel
theorem dX5_people_22 : decode cX5_people 22 = .ok (.getfield 12, 3) := by decide +kernel
theorem dX5_people_25 : decode cX5_people 25 = .ok (.getfield 52, 3) := by decide +kernel
theorem dX5_people_28 : decode cX5_people 28 = .ok (.if_icmp .ge 24, 3) := by decide +kernel
theorem dX5_people_31 : decode cX5_people 31 = .ok (.aload_n 0, 1) := by decide +kernel
theorem dX5_people_32 : decode cX5_people 32 = .ok (.getfield 12, 3) := by decide +kernel
theorem dX5_people_35 : decode cX5_people 35 = .ok (.iload_n 3, 1) := by decide +kernel
theorem dX5_people_36 : decode cX5_people 36 = .ok (.invokevirtual 269, 3) := by decide +kernel
theorem dX5_people_39 : decode cX5_people 39 = .ok (.iload_n 1, 1) := by decide +kernel
theorem dX5_people_40 : decode cX5_people 40 = .ok (.if_icmp .ne 6, 3) := by decide +kernel
theorem dX5_people_43 : decode cX5_people 43 = .ok (.iinc 2 1, 3) := by decide +kernel
theorem dX5_people_46 : decode cX5_people 46 = .ok (.iinc 3 1, 3) := by decide +kernel
theorem dX5_people_49 : decode cX5_people 49 = .ok (.goto (-29), 3) := by decide +kernel
theorem dX5_people_52 : decode cX5_people 52 = .ok (.iload_n 2, 1) := by decide +kernel
theorem dX5_people_53 : decode cX5_people 53 = .ok (.ireturn, 1) := by decide +kernel
set_option maxRecDepth 20000 in
theorem ggX5_keep_X2_become : GoodIn wsX5_keep wsX2_become := goodIn_r _ [9, 10, 11, 12, 13, 14, 15, 16, 17, 18, 19, 20, 21, 22, 23, 24, 25, 26, 27, 28, 29, 30, 31, 32, 33, 41, 42, 43, 44, 45, 46, 47, 48, 49, 50, 51, 52, 53, 54, 55, 56] (by decide +kernel) (by decide +kernel)
set_option maxRecDepth 20000 in
theorem gX5_keep_X2_become : GoodIn wsX5_keep (wsV RX5 272 RX2 yX2_become wsX2_become) := goodIn_app (goodIn_of _ (by decide +kernel)) ggX5_keep_X2_become
theorem dX5_keep_0 : decode cX5_keep 0 = .ok (.aload_n 0, 1) := by decide +kernel
theorem dX5_keep_1 : decode cX5_keep 1 = .ok (.getfield 16, 3) := by decide +kernel
theorem dX5_keep_4 : decode cX5_keep 4 = .ok (.aload_n 0, 1) := by decide +kernel
theorem dX5_keep_5 : decode cX5_keep 5 = .ok (.getfield 12, 3) := by decide +kernel
theorem dX5_keep_8 : decode cX5_keep 8 = .ok (.invokevirtual 272, 3) := by decide +kernel
theorem dX5_keep_11 : decode cX5_keep 11 = .ok (.aload_n 0, 1) := by decide +kernel
theorem dX5_keep_12 : decode cX5_keep 12 = .ok (.iconst 1, 1) := by decide +kernel
theorem dX5_keep_13 : decode cX5_keep 13 = .ok (.putfield 275, 3) := by decide +kernel
theorem dX5_keep_16 : decode cX5_keep 16 = .ok (.aload_n 0, 1) := by decide +kernel
theorem dX5_keep_17 : decode cX5_keep 17 = .ok (.getfield 12, 3) := by decide +kernel
theorem dX5_keep_20 : decode cX5_keep 20 = .ok (.getfield 52, 3) := by decide +kernel
theorem dX5_keep_23 : decode cX5_keep 23 = .ok (.ireturn, 1) := by decide +kernel
set_option maxRecDepth 20000 in
theorem ggX5_back_X5_finding : GoodIn wsX5_back wsX5_finding := goodIn_r _ [10, 11, 41, 42, 43, 44, 45, 46, 47] (by decide +kernel) (by decide +kernel)
set_option maxRecDepth 20000 in
theorem gX5_back_X5_finding : GoodIn wsX5_back (wsV RX5 48 RX5 yX5_finding wsX5_finding) := goodIn_app (goodIn_of _ (by decide +kernel)) ggX5_back_X5_finding
set_option maxRecDepth 20000 in
theorem ggX5_back_X2_become : GoodIn wsX5_back wsX2_become := goodIn_r _ [16, 17, 18, 19, 20, 21, 22, 23, 24, 25, 26, 27, 28, 29, 30, 31, 32, 33, 34, 35, 36, 37, 38, 39, 40, 48, 49, 50, 51, 52, 53, 54, 55, 56, 57, 58, 59, 60, 61, 62, 63] (by decide +kernel) (by decide +kernel)
set_option maxRecDepth 20000 in
theorem gX5_back_X2_become : GoodIn wsX5_back (wsV RX5 272 RX2 yX2_become wsX2_become) := goodIn_app (goodIn_of _ (by decide +kernel)) ggX5_back_X2_become
theorem dX5_back_0 : decode cX5_back 0 = .ok (.aload_n 0, 1) := by decide +kernel
theorem dX5_back_1 : decode cX5_back 1 = .ok (.getfield 275, 3) := by decide +kernel
theorem dX5_back_4 : decode cX5_back 4 = .ok (.ifCond .ne 10, 3) := by decide +kernel
theorem dX5_back_7 : decode cX5_back 7 = .ok (.aload_n 0, 1) := by decide +kernel
theorem dX5_back_8 : decode cX5_back 8 = .ok (.ldc 125, 2) := by decide +kernel
theorem dX5_back_10 : decode cX5_back 10 = .ok (.invokevirtual 48, 3) := by decide +kernel
theorem dX5_back_13 : decode cX5_back 13 = .ok (.ireturn, 1) := by decide +kernel
theorem dX5_back_14 : decode cX5_back 14 = .ok (.aload_n 0, 1) := by decide +kernel
theorem dX5_back_15 : decode cX5_back 15 = .ok (.getfield 12, 3) := by decide +kernel
theorem dX5_back_18 : decode cX5_back 18 = .ok (.aload_n 0, 1) := by decide +kernel
theorem dX5_back_19 : decode cX5_back 19 = .ok (.getfield 16, 3) := by decide +kernel
theorem dX5_back_22 : decode cX5_back 22 = .ok (.invokevirtual 272, 3) := by decide +kernel
theorem dX5_back_25 : decode cX5_back 25 = .ok (.aload_n 0, 1) := by decide +kernel
theorem dX5_back_26 : decode cX5_back 26 = .ok (.getfield 12, 3) := by decide +kernel
theorem dX5_back_29 : decode cX5_back 29 = .ok (.getfield 52, 3) := by decide +kernel
theorem dX5_back_32 : decode cX5_back 32 = .ok (.ireturn, 1) := by decide +kernel
set_option maxRecDepth 20000 in
theorem ggX5_told_X2_countCuts : GoodIn wsX5_told wsX2_countCuts := goodIn_r _ [10, 11, 12, 13, 14, 15, 16, 17, 18, 19, 20, 33, 34, 35, 36, 37, 38, 39, 40, 41, 42, 43, 44, 45, 46, 47, 48] (by decide +kernel) (by decide +kernel)
set_option maxRecDepth 20000 in
theorem gX5_told_X2_countCuts : GoodIn wsX5_told (wsV RX5 279 RX2 yX2_countCuts wsX2_countCuts) := goodIn_app (goodIn_of _ (by decide +kernel)) ggX5_told_X2_countCuts
set_option maxRecDepth 20000 in
theorem ggX5_told_X5_finding : GoodIn wsX5_told wsX5_finding := goodIn_r _ [25, 3, 26, 27, 28, 29, 30, 31, 32] (by decide +kernel) (by decide +kernel)
set_option maxRecDepth 20000 in
theorem gX5_told_X5_finding : GoodIn wsX5_told (wsV RX5 48 RX5 yX5_finding wsX5_finding) := goodIn_app (goodIn_of _ (by decide +kernel)) ggX5_told_X5_finding
theorem dX5_told_0 : decode cX5_told 0 = .ok (.iload_n 1, 1) := by decide +kernel
theorem dX5_told_1 : decode cX5_told 1 = .ok (.tableswitch 60 0 3 #[31, 39, 47, 52], 31) := by decide +kernel
theorem dX5_told_32 : decode cX5_told 32 = .ok (.aload_n 0, 1) := by decide +kernel
theorem dX5_told_33 : decode cX5_told 33 = .ok (.getfield 12, 3) := by decide +kernel
theorem dX5_told_36 : decode cX5_told 36 = .ok (.getfield 52, 3) := by decide +kernel
theorem dX5_told_39 : decode cX5_told 39 = .ok (.ireturn, 1) := by decide +kernel
theorem dX5_told_40 : decode cX5_told 40 = .ok (.aload_n 0, 1) := by decide +kernel
theorem dX5_told_41 : decode cX5_told 41 = .ok (.getfield 12, 3) := by decide +kernel
theorem dX5_told_44 : decode cX5_told 44 = .ok (.invokevirtual 279, 3) := by decide +kernel
theorem dX5_told_47 : decode cX5_told 47 = .ok (.ireturn, 1) := by decide +kernel
theorem dX5_told_48 : decode cX5_told 48 = .ok (.aload_n 0, 1) := by decide +kernel
theorem dX5_told_49 : decode cX5_told 49 = .ok (.getfield 282, 3) := by decide +kernel
theorem dX5_told_52 : decode cX5_told 52 = .ok (.ireturn, 1) := by decide +kernel
theorem dX5_told_53 : decode cX5_told 53 = .ok (.aload_n 0, 1) := by decide +kernel
theorem dX5_told_54 : decode cX5_told 54 = .ok (.getfield 12, 3) := by decide +kernel
theorem dX5_told_57 : decode cX5_told 57 = .ok (.getfield 198, 3) := by decide +kernel
theorem dX5_told_60 : decode cX5_told 60 = .ok (.ireturn, 1) := by decide +kernel
theorem dX5_told_61 : decode cX5_told 61 = .ok (.aload_n 0, 1) := by decide +kernel
theorem dX5_told_62 : decode cX5_told 62 = .ok (.ldc 47, 2) := by decide +kernel
theorem dX5_told_64 : decode cX5_told 64 = .ok (.invokevirtual 48, 3) := by decide +kernel
theorem dX5_told_67 : decode cX5_told 67 = .ok (.ireturn, 1) := by decide +kernel
theorem dX5_finding_0 : decode cX5_finding 0 = .ok (.aload_n 0, 1) := by decide +kernel
theorem dX5_finding_1 : decode cX5_finding 1 = .ok (.dup, 1) := by decide +kernel
theorem dX5_finding_2 : decode cX5_finding 2 = .ok (.getfield 282, 3) := by decide +kernel
theorem dX5_finding_5 : decode cX5_finding 5 = .ok (.iconst 1, 1) := by decide +kernel
theorem dX5_finding_6 : decode cX5_finding 6 = .ok (.iadd, 1) := by decide +kernel
theorem dX5_finding_7 : decode cX5_finding 7 = .ok (.putfield 282, 3) := by decide +kernel
theorem dX5_finding_10 : decode cX5_finding 10 = .ok (.iload_n 1, 1) := by decide +kernel
theorem dX5_finding_11 : decode cX5_finding 11 = .ok (.ireturn, 1) := by decide +kernel
theorem dX5_orderHindrance_0 : decode cX5_orderHindrance 0 = .ok (.aload_n 0, 1) := by decide +kernel
theorem dX5_orderHindrance_1 : decode cX5_orderHindrance 1 = .ok (.getfield 12, 3) := by decide +kernel
theorem dX5_orderHindrance_4 : decode cX5_orderHindrance 4 = .ok (.getfield 52, 3) := by decide +kernel
theorem dX5_orderHindrance_7 : decode cX5_orderHindrance 7 = .ok (.ifCond .ne 6, 3) := by decide +kernel
theorem dX5_orderHindrance_10 : decode cX5_orderHindrance 10 = .ok (.ldc 125, 2) := by decide +kernel
theorem dX5_orderHindrance_12 : decode cX5_orderHindrance 12 = .ok (.ireturn, 1) := by decide +kernel
theorem dX5_orderHindrance_13 : decode cX5_orderHindrance 13 = .ok (.aload_n 0, 1) := by decide +kernel
theorem dX5_orderHindrance_14 : decode cX5_orderHindrance 14 = .ok (.getfield 12, 3) := by decide +kernel
theorem dX5_orderHindrance_17 : decode cX5_orderHindrance 17 = .ok (.getfield 52, 3) := by decide +kernel
theorem dX5_orderHindrance_20 : decode cX5_orderHindrance 20 = .ok (.bipush 8, 2) := by decide +kernel
theorem dX5_orderHindrance_22 : decode cX5_orderHindrance 22 = .ok (.if_icmp .le 9, 3) := by decide +kernel
theorem dX5_orderHindrance_25 : decode cX5_orderHindrance 25 = .ok (.ldc_w 285, 3) := by decide +kernel
theorem dX5_orderHindrance_28 : decode cX5_orderHindrance 28 = .ok (.goto 4, 3) := by decide +kernel
theorem dX5_orderHindrance_31 : decode cX5_orderHindrance 31 = .ok (.iconst 0, 1) := by decide +kernel
theorem dX5_orderHindrance_32 : decode cX5_orderHindrance 32 = .ok (.ireturn, 1) := by decide +kernel
set_option maxRecDepth 20000 in
theorem ggX5_stretchHindrance_X5_orderHindrance : GoodIn wsX5_stretchHindrance wsX5_orderHindrance := goodIn_r _ [8, 1, 2, 9, 10, 11, 12, 13, 14, 15, 16, 17, 18, 19, 20, 21, 22, 23, 24] (by decide +kernel) (by decide +kernel)
set_option maxRecDepth 20000 in
theorem gX5_stretchHindrance_X5_orderHindrance : GoodIn wsX5_stretchHindrance (wsV RX5 169 RX5 yX5_orderHindrance wsX5_orderHindrance) := goodIn_app (goodIn_of _ (by decide +kernel)) ggX5_stretchHindrance_X5_orderHindrance
theorem dX5_stretchHindrance_0 : decode cX5_stretchHindrance 0 = .ok (.aload_n 0, 1) := by decide +kernel
theorem dX5_stretchHindrance_1 : decode cX5_stretchHindrance 1 = .ok (.invokevirtual 169, 3) := by decide +kernel
theorem dX5_stretchHindrance_4 : decode cX5_stretchHindrance 4 = .ok (.istore_n 2, 1) := by decide +kernel
theorem dX5_stretchHindrance_5 : decode cX5_stretchHindrance 5 = .ok (.iload_n 2, 1) := by decide +kernel
theorem dX5_stretchHindrance_6 : decode cX5_stretchHindrance 6 = .ok (.ifCond .eq 5, 3) := by decide +kernel
theorem dX5_stretchHindrance_9 : decode cX5_stretchHindrance 9 = .ok (.iload_n 2, 1) := by decide +kernel
theorem dX5_stretchHindrance_10 : decode cX5_stretchHindrance 10 = .ok (.ireturn, 1) := by decide +kernel
theorem dX5_stretchHindrance_11 : decode cX5_stretchHindrance 11 = .ok (.iload_n 1, 1) := by decide +kernel
theorem dX5_stretchHindrance_12 : decode cX5_stretchHindrance 12 = .ok (.iconst 1, 1) := by decide +kernel
theorem dX5_stretchHindrance_13 : decode cX5_stretchHindrance 13 = .ok (.if_icmp .lt 14, 3) := by decide +kernel
theorem dX5_stretchHindrance_16 : decode cX5_stretchHindrance 16 = .ok (.iload_n 1, 1) := by decide +kernel
theorem dX5_stretchHindrance_17 : decode cX5_stretchHindrance 17 = .ok (.aload_n 0, 1) := by decide +kernel
theorem dX5_stretchHindrance_18 : decode cX5_stretchHindrance 18 = .ok (.getfield 12, 3) := by decide +kernel
theorem dX5_stretchHindrance_21 : decode cX5_stretchHindrance 21 = .ok (.getfield 52, 3) := by decide +kernel
theorem dX5_stretchHindrance_24 : decode cX5_stretchHindrance 24 = .ok (.if_icmp .le 8, 3) := by decide +kernel
theorem dX5_stretchHindrance_27 : decode cX5_stretchHindrance 27 = .ok (.ldc 47, 2) := by decide +kernel
theorem dX5_stretchHindrance_29 : decode cX5_stretchHindrance 29 = .ok (.goto 4, 3) := by decide +kernel
theorem dX5_stretchHindrance_32 : decode cX5_stretchHindrance 32 = .ok (.iconst 0, 1) := by decide +kernel
theorem dX5_stretchHindrance_33 : decode cX5_stretchHindrance 33 = .ok (.ireturn, 1) := by decide +kernel
theorem dX5_isKind_0 : decode cX5_isKind 0 = .ok (.iload_n 0, 1) := by decide +kernel
theorem dX5_isKind_1 : decode cX5_isKind 1 = .ok (.ifCond .lt 12, 3) := by decide +kernel
theorem dX5_isKind_4 : decode cX5_isKind 4 = .ok (.iload_n 0, 1) := by decide +kernel
theorem dX5_isKind_5 : decode cX5_isKind 5 = .ok (.iconst 4, 1) := by decide +kernel
theorem dX5_isKind_6 : decode cX5_isKind 6 = .ok (.if_icmp .ge 7, 3) := by decide +kernel
theorem dX5_isKind_9 : decode cX5_isKind 9 = .ok (.iconst 1, 1) := by decide +kernel
theorem dX5_isKind_10 : decode cX5_isKind 10 = .ok (.goto 4, 3) := by decide +kernel
theorem dX5_isKind_13 : decode cX5_isKind 13 = .ok (.iconst 0, 1) := by decide +kernel
theorem dX5_isKind_14 : decode cX5_isKind 14 = .ok (.ireturn, 1) := by decide +kernel
theorem dX5_isDistance_0 : decode cX5_isDistance 0 = .ok (.iload_n 0, 1) := by decide +kernel
theorem dX5_isDistance_1 : decode cX5_isDistance 1 = .ok (.ifCond .lt 13, 3) := by decide +kernel
theorem dX5_isDistance_4 : decode cX5_isDistance 4 = .ok (.iload_n 0, 1) := by decide +kernel
theorem dX5_isDistance_5 : decode cX5_isDistance 5 = .ok (.bipush 99, 2) := by decide +kernel
theorem dX5_isDistance_7 : decode cX5_isDistance 7 = .ok (.if_icmp .gt 7, 3) := by decide +kernel
theorem dX5_isDistance_10 : decode cX5_isDistance 10 = .ok (.iconst 1, 1) := by decide +kernel
theorem dX5_isDistance_11 : decode cX5_isDistance 11 = .ok (.goto 4, 3) := by decide +kernel
theorem dX5_isDistance_14 : decode cX5_isDistance 14 = .ok (.iconst 0, 1) := by decide +kernel
theorem dX5_isDistance_15 : decode cX5_isDistance 15 = .ok (.ireturn, 1) := by decide +kernel
theorem dX5_isYear_0 : decode cX5_isYear 0 = .ok (.iload_n 0, 1) := by decide +kernel
theorem dX5_isYear_1 : decode cX5_isYear 1 = .ok (.sipush (-5000), 3) := by decide +kernel
theorem dX5_isYear_4 : decode cX5_isYear 4 = .ok (.if_icmp .lt 14, 3) := by decide +kernel
theorem dX5_isYear_7 : decode cX5_isYear 7 = .ok (.iload_n 0, 1) := by decide +kernel
theorem dX5_isYear_8 : decode cX5_isYear 8 = .ok (.sipush 5000, 3) := by decide +kernel
theorem dX5_isYear_11 : decode cX5_isYear 11 = .ok (.if_icmp .gt 7, 3) := by decide +kernel
theorem dX5_isYear_14 : decode cX5_isYear 14 = .ok (.iconst 1, 1) := by decide +kernel
theorem dX5_isYear_15 : decode cX5_isYear 15 = .ok (.goto 4, 3) := by decide +kernel
theorem dX5_isYear_18 : decode cX5_isYear 18 = .ok (.iconst 0, 1) := by decide +kernel
theorem dX5_isYear_19 : decode cX5_isYear 19 = .ok (.ireturn, 1) := by decide +kernel
theorem dX5_isGood_0 : decode cX5_isGood 0 = .ok (.iload_n 0, 1) := by decide +kernel
theorem dX5_isGood_1 : decode cX5_isGood 1 = .ok (.ifCond .lt 13, 3) := by decide +kernel
theorem dX5_isGood_4 : decode cX5_isGood 4 = .ok (.iload_n 0, 1) := by decide +kernel
theorem dX5_isGood_5 : decode cX5_isGood 5 = .ok (.bipush 12, 2) := by decide +kernel
theorem dX5_isGood_7 : decode cX5_isGood 7 = .ok (.if_icmp .ge 7, 3) := by decide +kernel
theorem dX5_isGood_10 : decode cX5_isGood 10 = .ok (.iconst 1, 1) := by decide +kernel
theorem dX5_isGood_11 : decode cX5_isGood 11 = .ok (.goto 4, 3) := by decide +kernel
theorem dX5_isGood_14 : decode cX5_isGood 14 = .ok (.iconst 0, 1) := by decide +kernel
theorem dX5_isGood_15 : decode cX5_isGood 15 = .ok (.ireturn, 1) := by decide +kernel
theorem dX5_isMark_0 : decode cX5_isMark 0 = .ok (.iload_n 0, 1) := by decide +kernel
theorem dX5_isMark_1 : decode cX5_isMark 1 = .ok (.ifCond .lt 13, 3) := by decide +kernel
theorem dX5_isMark_4 : decode cX5_isMark 4 = .ok (.iload_n 0, 1) := by decide +kernel
theorem dX5_isMark_5 : decode cX5_isMark 5 = .ok (.bipush 6, 2) := by decide +kernel
theorem dX5_isMark_7 : decode cX5_isMark 7 = .ok (.if_icmp .ge 7, 3) := by decide +kernel
theorem dX5_isMark_10 : decode cX5_isMark 10 = .ok (.iconst 1, 1) := by decide +kernel
theorem dX5_isMark_11 : decode cX5_isMark 11 = .ok (.goto 4, 3) := by decide +kernel
theorem dX5_isMark_14 : decode cX5_isMark 14 = .ok (.iconst 0, 1) := by decide +kernel
theorem dX5_isMark_15 : decode cX5_isMark 15 = .ok (.ireturn, 1) := by decide +kernel
theorem dX5_isSheet_0 : decode cX5_isSheet 0 = .ok (.iload_n 0, 1) := by decide +kernel
theorem dX5_isSheet_1 : decode cX5_isSheet 1 = .ok (.ifCond .lt 12, 3) := by decide +kernel
theorem dX5_isSheet_4 : decode cX5_isSheet 4 = .ok (.iload_n 0, 1) := by decide +kernel
theorem dX5_isSheet_5 : decode cX5_isSheet 5 = .ok (.iconst 4, 1) := by decide +kernel
theorem dX5_isSheet_6 : decode cX5_isSheet 6 = .ok (.if_icmp .ge 7, 3) := by decide +kernel
theorem dX5_isSheet_9 : decode cX5_isSheet 9 = .ok (.iconst 1, 1) := by decide +kernel
theorem dX5_isSheet_10 : decode cX5_isSheet 10 = .ok (.goto 4, 3) := by decide +kernel
theorem dX5_isSheet_13 : decode cX5_isSheet 13 = .ok (.iconst 0, 1) := by decide +kernel
theorem dX5_isSheet_14 : decode cX5_isSheet 14 = .ok (.ireturn, 1) := by decide +kernel
theorem dX5_isWidth_0 : decode cX5_isWidth 0 = .ok (.iload_n 0, 1) := by decide +kernel
theorem dX5_isWidth_1 : decode cX5_isWidth 1 = .ok (.ifCond .eq 21, 3) := by decide +kernel
theorem dX5_isWidth_4 : decode cX5_isWidth 4 = .ok (.iload_n 0, 1) := by decide +kernel
theorem dX5_isWidth_5 : decode cX5_isWidth 5 = .ok (.bipush 8, 2) := by decide +kernel
theorem dX5_isWidth_7 : decode cX5_isWidth 7 = .ok (.if_icmp .eq 15, 3) := by decide +kernel
theorem dX5_isWidth_10 : decode cX5_isWidth 10 = .ok (.iload_n 0, 1) := by decide +kernel
theorem dX5_isWidth_11 : decode cX5_isWidth 11 = .ok (.bipush 16, 2) := by decide +kernel
theorem dX5_isWidth_13 : decode cX5_isWidth 13 = .ok (.if_icmp .eq 9, 3) := by decide +kernel
theorem dX5_isWidth_16 : decode cX5_isWidth 16 = .ok (.iload_n 0, 1) := by decide +kernel
theorem dX5_isWidth_17 : decode cX5_isWidth 17 = .ok (.bipush 32, 2) := by decide +kernel
theorem dX5_isWidth_19 : decode cX5_isWidth 19 = .ok (.if_icmp .ne 7, 3) := by decide +kernel
theorem dX5_isWidth_22 : decode cX5_isWidth 22 = .ok (.iconst 1, 1) := by decide +kernel
theorem dX5_isWidth_23 : decode cX5_isWidth 23 = .ok (.goto 4, 3) := by decide +kernel
theorem dX5_isWidth_26 : decode cX5_isWidth 26 = .ok (.iconst 0, 1) := by decide +kernel
theorem dX5_isWidth_27 : decode cX5_isWidth 27 = .ok (.ireturn, 1) := by decide +kernel
theorem dX5_isIn_0 : decode cX5_isIn 0 = .ok (.iload_n 0, 1) := by decide +kernel
theorem dX5_isIn_1 : decode cX5_isIn 1 = .ok (.iload_n 1, 1) := by decide +kernel
theorem dX5_isIn_2 : decode cX5_isIn 2 = .ok (.ishr, 1) := by decide +kernel
theorem dX5_isIn_3 : decode cX5_isIn 3 = .ok (.iconst 1, 1) := by decide +kernel
theorem dX5_isIn_4 : decode cX5_isIn 4 = .ok (.iand, 1) := by decide +kernel
theorem dX5_isIn_5 : decode cX5_isIn 5 = .ok (.ifCond .eq 7, 3) := by decide +kernel
theorem dX5_isIn_8 : decode cX5_isIn 8 = .ok (.iconst 1, 1) := by decide +kernel
theorem dX5_isIn_9 : decode cX5_isIn 9 = .ok (.goto 4, 3) := by decide +kernel
theorem dX5_isIn_12 : decode cX5_isIn 12 = .ok (.iconst 0, 1) := by decide +kernel
theorem dX5_isIn_13 : decode cX5_isIn 13 = .ok (.ireturn, 1) := by decide +kernel
theorem dX5_commonDivisor_0 : decode cX5_commonDivisor 0 = .ok (.iload_n 1, 1) := by decide +kernel
theorem dX5_commonDivisor_1 : decode cX5_commonDivisor 1 = .ok (.istore_n 2, 1) := by decide +kernel
theorem dX5_commonDivisor_2 : decode cX5_commonDivisor 2 = .ok (.iload_n 2, 1) := by decide +kernel
theorem dX5_commonDivisor_3 : decode cX5_commonDivisor 3 = .ok (.iconst 1, 1) := by decide +kernel
theorem dX5_commonDivisor_4 : decode cX5_commonDivisor 4 = .ok (.if_icmp .le 23, 3) := by decide +kernel
theorem dX5_commonDivisor_7 : decode cX5_commonDivisor 7 = .ok (.iload_n 0, 1) := by decide +kernel
theorem dX5_commonDivisor_8 : decode cX5_commonDivisor 8 = .ok (.iload_n 2, 1) := by decide +kernel
theorem dX5_commonDivisor_9 : decode cX5_commonDivisor 9 = .ok (.irem, 1) := by decide +kernel
theorem dX5_commonDivisor_10 : decode cX5_commonDivisor 10 = .ok (.ifCond .ne 11, 3) := by decide +kernel
theorem dX5_commonDivisor_13 : decode cX5_commonDivisor 13 = .ok (.iload_n 1, 1) := by decide +kernel
theorem dX5_commonDivisor_14 : decode cX5_commonDivisor 14 = .ok (.iload_n 2, 1) := by decide +kernel
theorem dX5_commonDivisor_15 : decode cX5_commonDivisor 15 = .ok (.irem, 1) := by decide +kernel
theorem dX5_commonDivisor_16 : decode cX5_commonDivisor 16 = .ok (.ifCond .ne 5, 3) := by decide +kernel
theorem dX5_commonDivisor_19 : decode cX5_commonDivisor 19 = .ok (.iload_n 2, 1) := by decide +kernel
theorem dX5_commonDivisor_20 : decode cX5_commonDivisor 20 = .ok (.ireturn, 1) := by decide +kernel
theorem dX5_commonDivisor_21 : decode cX5_commonDivisor 21 = .ok (.iinc 2 (-1), 3) := by decide +kernel
theorem dX5_commonDivisor_24 : decode cX5_commonDivisor 24 = .ok (.goto (-22), 3) := by decide +kernel
theorem dX5_commonDivisor_27 : decode cX5_commonDivisor 27 = .ok (.iconst 1, 1) := by decide +kernel
theorem dX5_commonDivisor_28 : decode cX5_commonDivisor 28 = .ok (.ireturn, 1) := by decide +kernel
theorem dX6_init_0 : decode cX6_init 0 = .ok (.aload_n 0, 1) := by decide +kernel
theorem dX6_init_1 : decode cX6_init 1 = .ok (.invokespecial 3, 3) := by decide +kernel
theorem dX6_init_4 : decode cX6_init 4 = .ok (.aload_n 0, 1) := by decide +kernel
theorem dX6_init_5 : decode cX6_init 5 = .ok (.bipush 116, 2) := by decide +kernel
theorem dX6_init_7 : decode cX6_init 7 = .ok (.newarray .int, 2) := by decide +kernel
theorem dX6_init_9 : decode cX6_init 9 = .ok (.putfield 9, 3) := by decide +kernel
theorem dX6_init_12 : decode cX6_init 12 = .ok (.aload_n 0, 1) := by decide +kernel
theorem dX6_init_13 : decode cX6_init 13 = .ok (.bipush 116, 2) := by decide +kernel
theorem dX6_init_15 : decode cX6_init 15 = .ok (.newarray .int, 2) := by decide +kernel
theorem dX6_init_17 : decode cX6_init 17 = .ok (.putfield 13, 3) := by decide +kernel
theorem dX6_init_20 : decode cX6_init 20 = .ok (.aload_n 0, 1) := by decide +kernel
theorem dX6_init_21 : decode cX6_init 21 = .ok (.iconst 4, 1) := by decide +kernel
theorem dX6_init_22 : decode cX6_init 22 = .ok (.newarray .int, 2) := by decide +kernel
theorem dX6_init_24 : decode cX6_init 24 = .ok (.putfield 16, 3) := by decide +kernel
theorem dX6_init_27 : decode cX6_init 27 = .ok (.aload_n 0, 1) := by decide +kernel
theorem dX6_init_28 : decode cX6_init 28 = .ok (.iconst 4, 1) := by decide +kernel
theorem dX6_init_29 : decode cX6_init 29 = .ok (.newarray .int, 2) := by decide +kernel
theorem dX6_init_31 : decode cX6_init 31 = .ok (.putfield 19, 3) := by decide +kernel
theorem dX6_init_34 : decode cX6_init 34 = .ok (.aload_n 0, 1) := by decide +kernel
theorem dX6_init_35 : decode cX6_init 35 = .ok (.bipush 48, 2) := by decide +kernel
theorem dX6_init_37 : decode cX6_init 37 = .ok (.newarray .int, 2) := by decide +kernel
theorem dX6_init_39 : decode cX6_init 39 = .ok (.putfield 22, 3) := by decide +kernel
theorem dX6_init_42 : decode cX6_init 42 = .ok (.aload_n 0, 1) := by decide +kernel
theorem dX6_init_43 : decode cX6_init 43 = .ok (.bipush 12, 2) := by decide +kernel
theorem dX6_init_45 : decode cX6_init 45 = .ok (.newarray .int, 2) := by decide +kernel
theorem dX6_init_47 : decode cX6_init 47 = .ok (.putfield 25, 3) := by decide +kernel
theorem dX6_init_50 : decode cX6_init 50 = .ok (.aload_n 0, 1) := by decide +kernel
theorem dX6_init_51 : decode cX6_init 51 = .ok (.bipush 10, 2) := by decide +kernel
theorem dX6_init_53 : decode cX6_init 53 = .ok (.newarray .int, 2) := by decide +kernel
theorem dX6_init_55 : decode cX6_init 55 = .ok (.putfield 28, 3) := by decide +kernel
theorem dX6_init_58 : decode cX6_init 58 = .ok (.aload_n 0, 1) := by decide +kernel
theorem dX6_init_59 : decode cX6_init 59 = .ok (.bipush 10, 2) := by decide +kernel
theorem dX6_init_61 : decode cX6_init 61 = .ok (.newarray .int, 2) := by decide +kernel
theorem dX6_init_63 : decode cX6_init 63 = .ok (.putfield 31, 3) := by decide +kernel
theorem dX6_init_66 : decode cX6_init 66 = .ok (.aload_n 0, 1) := by decide +kernel
theorem dX6_init_67 : decode cX6_init 67 = .ok (.bipush 11, 2) := by decide +kernel
theorem dX6_init_69 : decode cX6_init 69 = .ok (.newarray .int, 2) := by decide +kernel
theorem dX6_init_71 : decode cX6_init 71 = .ok (.putfield 34, 3) := by decide +kernel
theorem dX6_init_74 : decode cX6_init 74 = .ok (.aload_n 0, 1) := by decide +kernel
theorem dX6_init_75 : decode cX6_init 75 = .ok (.bipush 10, 2) := by decide +kernel
theorem dX6_init_77 : decode cX6_init 77 = .ok (.newarray .int, 2) := by decide +kernel
theorem dX6_init_79 : decode cX6_init 79 = .ok (.putfield 37, 3) := by decide +kernel
theorem dX6_init_82 : decode cX6_init 82 = .ok (.iconst 0, 1) := by decide +kernel
theorem dX6_init_83 : decode cX6_init 83 = .ok (.istore_n 1, 1) := by decide +kernel
theorem dX6_init_84 : decode cX6_init 84 = .ok (.iload_n 1, 1) := by decide +kernel
theorem dX6_init_85 : decode cX6_init 85 = .ok (.bipush 6, 2) := by decide +kernel
theorem dX6_init_87 : decode cX6_init 87 = .ok (.if_icmp .ge 31, 3) := by decide +kernel
theorem dX6_init_90 : decode cX6_init 90 = .ok (.aload_n 0, 1) := by decide +kernel
theorem dX6_init_91 : decode cX6_init 91 = .ok (.getfield 9, 3) := by decide +kernel
theorem dX6_init_94 : decode cX6_init 94 = .ok (.bipush 92, 2) := by decide +kernel
theorem dX6_init_96 : decode cX6_init 96 = .ok (.iload_n 1, 1) := by decide +kernel
theorem dX6_init_97 : decode cX6_init 97 = .ok (.iadd, 1) := by decide +kernel
theorem dX6_init_98 : decode cX6_init 98 = .ok (.bipush 10, 2) := by decide +kernel
theorem dX6_init_100 : decode cX6_init 100 = .ok (.iastore, 1) := by decide +kernel
theorem dX6_init_101 : decode cX6_init 101 = .ok (.aload_n 0, 1) := by decide +kernel
theorem dX6_init_102 : decode cX6_init 102 = .ok (.getfield 9, 3) := by decide +kernel
theorem dX6_init_105 : decode cX6_init 105 = .ok (.bipush 98, 2) := by decide +kernel
theorem dX6_init_107 : decode cX6_init 107 = .ok (.iload_n 1, 1) := by decide +kernel
theorem dX6_init_108 : decode cX6_init 108 = .ok (.iadd, 1) := by decide +kernel
theorem dX6_init_109 : decode cX6_init 109 = .ok (.bipush 10, 2) := by decide +kernel
theorem dX6_init_111 : decode cX6_init 111 = .ok (.iastore, 1) := by decide +kernel
theorem dX6_init_112 : decode cX6_init 112 = .ok (.iinc 1 1, 3) := by decide +kernel
theorem dX6_init_115 : decode cX6_init 115 = .ok (.goto (-31), 3) := by decide +kernel
theorem dX6_init_118 : decode cX6_init 118 = .ok (.return_, 1) := by decide +kernel
theorem dX6_finding_0 : decode cX6_finding 0 = .ok (.aload_n 0, 1) := by decide +kernel
theorem dX6_finding_1 : decode cX6_finding 1 = .ok (.dup, 1) := by decide +kernel
theorem dX6_finding_2 : decode cX6_finding 2 = .ok (.getfield 40, 3) := by decide +kernel
theorem dX6_finding_5 : decode cX6_finding 5 = .ok (.iconst 1, 1) := by decide +kernel
theorem dX6_finding_6 : decode cX6_finding 6 = .ok (.iadd, 1) := by decide +kernel
theorem dX6_finding_7 : decode cX6_finding 7 = .ok (.putfield 40, 3) := by decide +kernel
theorem dX6_finding_10 : decode cX6_finding 10 = .ok (.iload_n 1, 1) := by decide +kernel
theorem dX6_finding_11 : decode cX6_finding 11 = .ok (.ireturn, 1) := by decide +kernel
theorem dX6_within_0 : decode cX6_within 0 = .ok (.iload_n 0, 1) := by decide +kernel
theorem dX6_within_1 : decode cX6_within 1 = .ok (.iload_n 1, 1) := by decide +kernel
theorem dX6_within_2 : decode cX6_within 2 = .ok (.if_icmp .lt 12, 3) := by decide +kernel
theorem dX6_within_5 : decode cX6_within 5 = .ok (.iload_n 0, 1) := by decide +kernel
theorem dX6_within_6 : decode cX6_within 6 = .ok (.iload_n 2, 1) := by decide +kernel
theorem dX6_within_7 : decode cX6_within 7 = .ok (.if_icmp .gt 7, 3) := by decide +kernel
theorem dX6_within_10 : decode cX6_within 10 = .ok (.iconst 1, 1) := by decide +kernel
theorem dX6_within_11 : decode cX6_within 11 = .ok (.goto 4, 3) := by decide +kernel
theorem dX6_within_14 : decode cX6_within 14 = .ok (.iconst 0, 1) := by decide +kernel
theorem dX6_within_15 : decode cX6_within 15 = .ok (.ireturn, 1) := by decide +kernel
set_option maxRecDepth 20000 in
theorem ggX6_isGrave_X6_within : GoodIn wsX6_isGrave wsX6_within := goodIn_r _ [5] (by decide +kernel) (by decide +kernel)
set_option maxRecDepth 20000 in
theorem gX6_isGrave_X6_within : GoodIn wsX6_isGrave (va_wsS RX6 44 yX6_within wsX6_within) := goodIn_app (goodIn_of _ (by decide +kernel)) ggX6_isGrave_X6_within
theorem dX6_isGrave_0 : decode cX6_isGrave 0 = .ok (.iload_n 1, 1) := by decide +kernel
theorem dX6_isGrave_1 : decode cX6_isGrave 1 = .ok (.iconst 0, 1) := by decide +kernel
theorem dX6_isGrave_2 : decode cX6_isGrave 2 = .ok (.aload_n 0, 1) := by decide +kernel
theorem dX6_isGrave_3 : decode cX6_isGrave 3 = .ok (.getfield 9, 3) := by decide +kernel
theorem dX6_isGrave_6 : decode cX6_isGrave 6 = .ok (.iconst 0, 1) := by decide +kernel
theorem dX6_isGrave_7 : decode cX6_isGrave 7 = .ok (.iaload, 1) := by decide +kernel
theorem dX6_isGrave_8 : decode cX6_isGrave 8 = .ok (.iconst 1, 1) := by decide +kernel
theorem dX6_isGrave_9 : decode cX6_isGrave 9 = .ok (.isub, 1) := by decide +kernel
theorem dX6_isGrave_10 : decode cX6_isGrave 10 = .ok (.invokestatic 44, 3) := by decide +kernel
theorem dX6_isGrave_13 : decode cX6_isGrave 13 = .ok (.ireturn, 1) := by decide +kernel
set_option maxRecDepth 20000 in
theorem ggX6_isGood_X6_within : GoodIn wsX6_isGood wsX6_within := goodIn_r _ [4] (by decide +kernel) (by decide +kernel)
set_option maxRecDepth 20000 in
theorem gX6_isGood_X6_within : GoodIn wsX6_isGood (va_wsS RX6 44 yX6_within wsX6_within) := goodIn_app (goodIn_of _ (by decide +kernel)) ggX6_isGood_X6_within
theorem dX6_isGood_0 : decode cX6_isGood 0 = .ok (.iload_n 0, 1) := by decide +kernel
theorem dX6_isGood_1 : decode cX6_isGood 1 = .ok (.iconst 0, 1) := by decide +kernel
theorem dX6_isGood_2 : decode cX6_isGood 2 = .ok (.bipush 11, 2) := by decide +kernel
theorem dX6_isGood_4 : decode cX6_isGood 4 = .ok (.invokestatic 44, 3) := by decide +kernel
theorem dX6_isGood_7 : decode cX6_isGood 7 = .ok (.ireturn, 1) := by decide +kernel
theorem dX6_many_0 : decode cX6_many 0 = .ok (.iconst 0, 1) := by decide +kernel
theorem dX6_many_1 : decode cX6_many 1 = .ok (.istore_n 1, 1) := by decide +kernel
theorem dX6_many_2 : decode cX6_many 2 = .ok (.iconst 0, 1) := by decide +kernel
theorem dX6_many_3 : decode cX6_many 3 = .ok (.istore_n 2, 1) := by decide +kernel
theorem dX6_many_4 : decode cX6_many 4 = .ok (.iload_n 2, 1) := by decide +kernel
theorem dX6_many_5 : decode cX6_many 5 = .ok (.bipush 32, 2) := by decide +kernel
theorem dX6_many_7 : decode cX6_many 7 = .ok (.if_icmp .ge 17, 3) := by decide +kernel
theorem dX6_many_10 : decode cX6_many 10 = .ok (.iload_n 1, 1) := by decide +kernel
theorem dX6_many_11 : decode cX6_many 11 = .ok (.iload_n 0, 1) := by decide +kernel
theorem dX6_many_12 : decode cX6_many 12 = .ok (.iload_n 2, 1) := by decide +kernel
theorem dX6_many_13 : decode cX6_many 13 = .ok (.iushr, 1) := by decide +kernel
theorem dX6_many_14 : decode cX6_many 14 = .ok (.iconst 1, 1) := by decide +kernel
theorem dX6_many_15 : decode cX6_many 15 = .ok (.iand, 1) := by decide +kernel
theorem dX6_many_16 : decode cX6_many 16 = .ok (.iadd, 1) := by decide +kernel
theorem dX6_many_17 : decode cX6_many 17 = .ok (.istore_n 1, 1) := by decide +kernel
theorem dX6_many_18 : decode cX6_many 18 = .ok (.iinc 2 1, 3) := by decide +kernel
theorem dX6_many_21 : decode cX6_many 21 = .ok (.goto (-17), 3) := by decide +kernel
theorem dX6_many_24 : decode cX6_many 24 = .ok (.iload_n 1, 1) := by decide +kernel
theorem dX6_many_25 : decode cX6_many 25 = .ok (.ireturn, 1) := by decide +kernel
set_option maxRecDepth 20000 in
theorem ggX6_grave_X6_within : GoodIn wsX6_grave wsX6_within := goodIn_r _ [7] (by decide +kernel) (by decide +kernel)
set_option maxRecDepth 20000 in
theorem gX6_grave_X6_within : GoodIn wsX6_grave (va_wsS RX6 44 yX6_within wsX6_within) := goodIn_app (goodIn_of _ (by decide +kernel)) ggX6_grave_X6_within
set_option maxRecDepth 20000 in
theorem ggX6_grave_X6_finding : GoodIn wsX6_grave wsX6_finding := goodIn_r _ [11, 12, 13, 14, 15, 16, 17, 18, 19, 20, 21, 22, 23, 24, 25, 26, 27, 28] (by decide +kernel) (by decide +kernel)
set_option maxRecDepth 20000 in
theorem gX6_grave_X6_finding : GoodIn wsX6_grave (wsV RX6 49 RX6 yX6_finding wsX6_finding) := goodIn_app (goodIn_of _ (by decide +kernel)) ggX6_grave_X6_finding
theorem dX6_grave_0 : decode cX6_grave 0 = .ok (.iload_n 1, 1) := by decide +kernel
theorem dX6_grave_1 : decode cX6_grave 1 = .ok (.iconst 0, 1) := by decide +kernel
theorem dX6_grave_2 : decode cX6_grave 2 = .ok (.iconst 3, 1) := by decide +kernel
theorem dX6_grave_3 : decode cX6_grave 3 = .ok (.invokestatic 44, 3) := by decide +kernel
theorem dX6_grave_6 : decode cX6_grave 6 = .ok (.ifCond .eq 23, 3) := by decide +kernel
theorem dX6_grave_9 : decode cX6_grave 9 = .ok (.iload_n 2, 1) := by decide +kernel
theorem dX6_grave_10 : decode cX6_grave 10 = .ok (.iconst 0, 1) := by decide +kernel
theorem dX6_grave_11 : decode cX6_grave 11 = .ok (.bipush 99, 2) := by decide +kernel
theorem dX6_grave_13 : decode cX6_grave 13 = .ok (.invokestatic 44, 3) := by decide +kernel
theorem dX6_grave_16 : decode cX6_grave 16 = .ok (.ifCond .eq 13, 3) := by decide +kernel
theorem dX6_grave_19 : decode cX6_grave 19 = .ok (.iload_n 3, 1) := by decide +kernel
theorem dX6_grave_20 : decode cX6_grave 20 = .ok (.iconst 0, 1) := by decide +kernel
theorem dX6_grave_21 : decode cX6_grave 21 = .ok (.bipush 99, 2) := by decide +kernel
theorem dX6_grave_23 : decode cX6_grave 23 = .ok (.invokestatic 44, 3) := by decide +kernel
theorem dX6_grave_26 : decode cX6_grave 26 = .ok (.ifCond .ne 10, 3) := by decide +kernel
theorem dX6_grave_29 : decode cX6_grave 29 = .ok (.aload_n 0, 1) := by decide +kernel
theorem dX6_grave_30 : decode cX6_grave 30 = .ok (.ldc 48, 2) := by decide +kernel
theorem dX6_grave_32 : decode cX6_grave 32 = .ok (.invokevirtual 49, 3) := by decide +kernel
theorem dX6_grave_35 : decode cX6_grave 35 = .ok (.ireturn, 1) := by decide +kernel
theorem dX6_grave_36 : decode cX6_grave 36 = .ok (.aload_n 0, 1) := by decide +kernel
theorem dX6_grave_37 : decode cX6_grave 37 = .ok (.getfield 9, 3) := by decide +kernel
theorem dX6_grave_40 : decode cX6_grave 40 = .ok (.iconst 0, 1) := by decide +kernel
theorem dX6_grave_41 : decode cX6_grave 41 = .ok (.iaload, 1) := by decide +kernel
theorem dX6_grave_42 : decode cX6_grave 42 = .ok (.istore 4, 2) := by decide +kernel
theorem dX6_grave_44 : decode cX6_grave 44 = .ok (.iload 4, 2) := by decide +kernel
theorem dX6_grave_46 : decode cX6_grave 46 = .ok (.bipush 10, 2) := by decide +kernel
theorem dX6_grave_48 : decode cX6_grave 48 = .ok (.if_icmp .ne 10, 3) := by decide +kernel
theorem dX6_grave_51 : decode cX6_grave 51 = .ok (.aload_n 0, 1) := by decide +kernel
theorem dX6_grave_52 : decode cX6_grave 52 = .ok (.ldc 53, 2) := by decide +kernel
theorem dX6_grave_54 : decode cX6_grave 54 = .ok (.invokevirtual 49, 3) := by decide +kernel
theorem dX6_grave_57 : decode cX6_grave 57 = .ok (.ireturn, 1) := by decide +kernel
theorem dX6_grave_58 : decode cX6_grave 58 = .ok (.aload_n 0, 1) := by decide +kernel
theorem dX6_grave_59 : decode cX6_grave 59 = .ok (.getfield 9, 3) := by decide +kernel
theorem dX6_grave_62 : decode cX6_grave 62 = .ok (.iconst 2, 1) := by decide +kernel
theorem dX6_grave_63 : decode cX6_grave 63 = .ok (.iload 4, 2) := by decide +kernel
theorem dX6_grave_65 : decode cX6_grave 65 = .ok (.iadd, 1) := by decide +kernel
theorem dX6_grave_66 : decode cX6_grave 66 = .ok (.iload_n 1, 1) := by decide +kernel
theorem dX6_grave_67 : decode cX6_grave 67 = .ok (.iastore, 1) := by decide +kernel
theorem dX6_grave_68 : decode cX6_grave 68 = .ok (.aload_n 0, 1) := by decide +kernel
theorem dX6_grave_69 : decode cX6_grave 69 = .ok (.getfield 9, 3) := by decide +kernel
theorem dX6_grave_72 : decode cX6_grave 72 = .ok (.bipush 12, 2) := by decide +kernel
theorem dX6_grave_74 : decode cX6_grave 74 = .ok (.iload 4, 2) := by decide +kernel
theorem dX6_grave_76 : decode cX6_grave 76 = .ok (.iadd, 1) := by decide +kernel
theorem dX6_grave_77 : decode cX6_grave 77 = .ok (.iload_n 2, 1) := by decide +kernel
theorem dX6_grave_78 : decode cX6_grave 78 = .ok (.iastore, 1) := by decide +kernel
theorem dX6_grave_79 : decode cX6_grave 79 = .ok (.aload_n 0, 1) := by decide +kernel
theorem dX6_grave_80 : decode cX6_grave 80 = .ok (.getfield 9, 3) := by decide +kernel
theorem dX6_grave_83 : decode cX6_grave 83 = .ok (.bipush 22, 2) := by decide +kernel
theorem dX6_grave_85 : decode cX6_grave 85 = .ok (.iload 4, 2) := by decide +kernel
theorem dX6_grave_87 : decode cX6_grave 87 = .ok (.iadd, 1) := by decide +kernel
theorem dX6_grave_88 : decode cX6_grave 88 = .ok (.iload_n 3, 1) := by decide +kernel
theorem dX6_grave_89 : decode cX6_grave 89 = .ok (.iastore, 1) := by decide +kernel
theorem dX6_grave_90 : decode cX6_grave 90 = .ok (.aload_n 0, 1) := by decide +kernel
theorem dX6_grave_91 : decode cX6_grave 91 = .ok (.getfield 9, 3) := by decide +kernel
theorem dX6_grave_94 : decode cX6_grave 94 = .ok (.bipush 32, 2) := by decide +kernel
theorem dX6_grave_96 : decode cX6_grave 96 = .ok (.iload 4, 2) := by decide +kernel
theorem dX6_grave_98 : decode cX6_grave 98 = .ok (.iadd, 1) := by decide +kernel
theorem dX6_grave_99 : decode cX6_grave 99 = .ok (.iconst 0, 1) := by decide +kernel
theorem dX6_grave_100 : decode cX6_grave 100 = .ok (.iastore, 1) := by decide +kernel
theorem dX6_grave_101 : decode cX6_grave 101 = .ok (.aload_n 0, 1) := by decide +kernel
theorem dX6_grave_102 : decode cX6_grave 102 = .ok (.getfield 9, 3) := by decide +kernel
theorem dX6_grave_105 : decode cX6_grave 105 = .ok (.bipush 42, 2) := by decide +kernel
theorem dX6_grave_107 : decode cX6_grave 107 = .ok (.iload 4, 2) := by decide +kernel
theorem dX6_grave_109 : decode cX6_grave 109 = .ok (.iadd, 1) := by decide +kernel
theorem dX6_grave_110 : decode cX6_grave 110 = .ok (.sipush (-5000), 3) := by decide +kernel
theorem dX6_grave_113 : decode cX6_grave 113 = .ok (.iastore, 1) := by decide +kernel
theorem dX6_grave_114 : decode cX6_grave 114 = .ok (.aload_n 0, 1) := by decide +kernel
theorem dX6_grave_115 : decode cX6_grave 115 = .ok (.getfield 9, 3) := by decide +kernel
theorem dX6_grave_118 : decode cX6_grave 118 = .ok (.bipush 52, 2) := by decide +kernel
theorem dX6_grave_120 : decode cX6_grave 120 = .ok (.iload 4, 2) := by decide +kernel
theorem dX6_grave_122 : decode cX6_grave 122 = .ok (.iadd, 1) := by decide +kernel
theorem dX6_grave_123 : decode cX6_grave 123 = .ok (.sipush 5000, 3) := by decide +kernel
theorem dX6_grave_126 : decode cX6_grave 126 = .ok (.iastore, 1) := by decide +kernel
theorem dX6_grave_127 : decode cX6_grave 127 = .ok (.aload_n 0, 1) := by decide +kernel
theorem dX6_grave_128 : decode cX6_grave 128 = .ok (.getfield 9, 3) := by decide +kernel
theorem dX6_grave_131 : decode cX6_grave 131 = .ok (.bipush 62, 2) := by decide +kernel
theorem dX6_grave_133 : decode cX6_grave 133 = .ok (.iload 4, 2) := by decide +kernel
theorem dX6_grave_135 : decode cX6_grave 135 = .ok (.iadd, 1) := by decide +kernel
theorem dX6_grave_136 : decode cX6_grave 136 = .ok (.iconst 0, 1) := by decide +kernel
theorem dX6_grave_137 : decode cX6_grave 137 = .ok (.iastore, 1) := by decide +kernel
theorem dX6_grave_138 : decode cX6_grave 138 = .ok (.aload_n 0, 1) := by decide +kernel
theorem dX6_grave_139 : decode cX6_grave 139 = .ok (.getfield 9, 3) := by decide +kernel
theorem dX6_grave_142 : decode cX6_grave 142 = .ok (.bipush 72, 2) := by decide +kernel
theorem dX6_grave_144 : decode cX6_grave 144 = .ok (.iload 4, 2) := by decide +kernel
theorem dX6_grave_146 : decode cX6_grave 146 = .ok (.iadd, 1) := by decide +kernel
theorem dX6_grave_147 : decode cX6_grave 147 = .ok (.iconst 0, 1) := by decide +kernel
theorem dX6_grave_148 : decode cX6_grave 148 = .ok (.iastore, 1) := by decide +kernel
theorem dX6_grave_149 : decode cX6_grave 149 = .ok (.aload_n 0, 1) := by decide +kernel
theorem dX6_grave_150 : decode cX6_grave 150 = .ok (.getfield 9, 3) := by decide +kernel
theorem dX6_grave_153 : decode cX6_grave 153 = .ok (.bipush 82, 2) := by decide +kernel
theorem dX6_grave_155 : decode cX6_grave 155 = .ok (.iload 4, 2) := by decide +kernel
theorem dX6_grave_157 : decode cX6_grave 157 = .ok (.iadd, 1) := by decide +kernel
theorem dX6_grave_158 : decode cX6_grave 158 = .ok (.iconst 0, 1) := by decide +kernel
theorem dX6_grave_159 : decode cX6_grave 159 = .ok (.iastore, 1) := by decide +kernel
theorem dX6_grave_160 : decode cX6_grave 160 = .ok (.aload_n 0, 1) := by decide +kernel
theorem dX6_grave_161 : decode cX6_grave 161 = .ok (.getfield 9, 3) := by decide +kernel
theorem dX6_grave_164 : decode cX6_grave 164 = .ok (.iconst 0, 1) := by decide +kernel
theorem dX6_grave_165 : decode cX6_grave 165 = .ok (.dup2, 1) := by decide +kernel
theorem dX6_grave_166 : decode cX6_grave 166 = .ok (.iaload, 1) := by decide +kernel
theorem dX6_grave_167 : decode cX6_grave 167 = .ok (.iconst 1, 1) := by decide +kernel
theorem dX6_grave_168 : decode cX6_grave 168 = .ok (.iadd, 1) := by decide +kernel
theorem dX6_grave_169 : decode cX6_grave 169 = .ok (.iastore, 1) := by decide +kernel
theorem dX6_grave_170 : decode cX6_grave 170 = .ok (.iload 4, 2) := by decide +kernel
theorem dX6_grave_172 : decode cX6_grave 172 = .ok (.ireturn, 1) := by decide +kernel
set_option maxRecDepth 20000 in
theorem ggX6_as_X6_isGrave : GoodIn wsX6_as wsX6_isGrave := goodIn_r _ [8, 2, 9, 10, 7, 11, 17, 18, 19, 20, 21, 22, 23, 24, 25, 26, 27, 28, 29, 30, 31, 32] (by decide +kernel) (by decide +kernel)
set_option maxRecDepth 20000 in
theorem gX6_as_X6_isGrave : GoodIn wsX6_as (wsV RX6 54 RX6 yX6_isGrave wsX6_isGrave) := goodIn_app (goodIn_of _ (by decide +kernel)) ggX6_as_X6_isGrave
set_option maxRecDepth 20000 in
theorem ggX6_as_X6_within : GoodIn wsX6_as wsX6_within := goodIn_r _ [11] (by decide +kernel) (by decide +kernel)
set_option maxRecDepth 20000 in
theorem gX6_as_X6_within : GoodIn wsX6_as (va_wsS RX6 44 yX6_within wsX6_within) := goodIn_app (goodIn_of _ (by decide +kernel)) ggX6_as_X6_within
set_option maxRecDepth 20000 in
theorem ggX6_as_X6_finding : GoodIn wsX6_as wsX6_finding := goodIn_r _ [15, 16, 17, 18, 19, 20, 21, 22, 23, 24, 25, 26, 27, 28, 29, 30, 31, 32] (by decide +kernel) (by decide +kernel)
set_option maxRecDepth 20000 in
theorem gX6_as_X6_finding : GoodIn wsX6_as (wsV RX6 49 RX6 yX6_finding wsX6_finding) := goodIn_app (goodIn_of _ (by decide +kernel)) ggX6_as_X6_finding
theorem dX6_as_0 : decode cX6_as 0 = .ok (.aload_n 0, 1) := by decide +kernel
theorem dX6_as_1 : decode cX6_as 1 = .ok (.iload_n 1, 1) := by decide +kernel
theorem dX6_as_2 : decode cX6_as 2 = .ok (.invokevirtual 54, 3) := by decide +kernel
theorem dX6_as_5 : decode cX6_as 5 = .ok (.ifCond .eq 12, 3) := by decide +kernel
theorem dX6_as_8 : decode cX6_as 8 = .ok (.iload_n 2, 1) := by decide +kernel
theorem dX6_as_9 : decode cX6_as 9 = .ok (.iconst 0, 1) := by decide +kernel
theorem dX6_as_10 : decode cX6_as 10 = .ok (.iconst 3, 1) := by decide +kernel
theorem dX6_as_11 : decode cX6_as 11 = .ok (.invokestatic 44, 3) := by decide +kernel
theorem dX6_as_14 : decode cX6_as 14 = .ok (.ifCond .ne 10, 3) := by decide +kernel
theorem dX6_as_17 : decode cX6_as 17 = .ok (.aload_n 0, 1) := by decide +kernel
theorem dX6_as_18 : decode cX6_as 18 = .ok (.ldc 48, 2) := by decide +kernel
theorem dX6_as_20 : decode cX6_as 20 = .ok (.invokevirtual 49, 3) := by decide +kernel
theorem dX6_as_23 : decode cX6_as 23 = .ok (.ireturn, 1) := by decide +kernel
theorem dX6_as_24 : decode cX6_as 24 = .ok (.aload_n 0, 1) := by decide +kernel
theorem dX6_as_25 : decode cX6_as 25 = .ok (.getfield 9, 3) := by decide +kernel
theorem dX6_as_28 : decode cX6_as 28 = .ok (.iconst 2, 1) := by decide +kernel
theorem dX6_as_29 : decode cX6_as 29 = .ok (.iload_n 1, 1) := by decide +kernel
theorem dX6_as_30 : decode cX6_as 30 = .ok (.iadd, 1) := by decide +kernel
theorem dX6_as_31 : decode cX6_as 31 = .ok (.iaload, 1) := by decide +kernel
theorem dX6_as_32 : decode cX6_as 32 = .ok (.istore_n 3, 1) := by decide +kernel
theorem dX6_as_33 : decode cX6_as 33 = .ok (.iload_n 2, 1) := by decide +kernel
theorem dX6_as_34 : decode cX6_as 34 = .ok (.ifCond .eq 18, 3) := by decide +kernel
theorem dX6_as_37 : decode cX6_as 37 = .ok (.iload_n 3, 1) := by decide +kernel
theorem dX6_as_38 : decode cX6_as 38 = .ok (.iload_n 2, 1) := by decide +kernel
theorem dX6_as_39 : decode cX6_as 39 = .ok (.if_icmp .eq 13, 3) := by decide +kernel
theorem dX6_as_42 : decode cX6_as 42 = .ok (.iload_n 2, 1) := by decide +kernel
theorem dX6_as_43 : decode cX6_as 43 = .ok (.iconst 1, 1) := by decide +kernel
theorem dX6_as_44 : decode cX6_as 44 = .ok (.if_icmp .ne 12, 3) := by decide +kernel
theorem dX6_as_47 : decode cX6_as 47 = .ok (.iload_n 3, 1) := by decide +kernel
theorem dX6_as_48 : decode cX6_as 48 = .ok (.iconst 3, 1) := by decide +kernel
theorem dX6_as_49 : decode cX6_as 49 = .ok (.if_icmp .ne 7, 3) := by decide +kernel
theorem dX6_as_52 : decode cX6_as 52 = .ok (.iload_n 1, 1) := by decide +kernel
theorem dX6_as_53 : decode cX6_as 53 = .ok (.goto 9, 3) := by decide +kernel
theorem dX6_as_56 : decode cX6_as 56 = .ok (.aload_n 0, 1) := by decide +kernel
theorem dX6_as_57 : decode cX6_as 57 = .ok (.ldc 58, 2) := by decide +kernel
theorem dX6_as_59 : decode cX6_as 59 = .ok (.invokevirtual 49, 3) := by decide +kernel
theorem dX6_as_62 : decode cX6_as 62 = .ok (.ireturn, 1) := by decide +kernel
set_option maxRecDepth 20000 in
theorem ggX6_goods_X6_isGrave : GoodIn wsX6_goods wsX6_isGrave := goodIn_r _ [7, 2, 8, 9, 6, 10, 16, 17, 18, 19, 20, 21, 22, 23, 24, 25, 26, 27, 28, 29, 30, 31] (by decide +kernel) (by decide +kernel)
set_option maxRecDepth 20000 in
theorem gX6_goods_X6_isGrave : GoodIn wsX6_goods (wsV RX6 54 RX6 yX6_isGrave wsX6_isGrave) := goodIn_app (goodIn_of _ (by decide +kernel)) ggX6_goods_X6_isGrave
set_option maxRecDepth 20000 in
theorem ggX6_goods_X6_within : GoodIn wsX6_goods wsX6_within := goodIn_r _ [10] (by decide +kernel) (by decide +kernel)
set_option maxRecDepth 20000 in
theorem gX6_goods_X6_within : GoodIn wsX6_goods (va_wsS RX6 44 yX6_within wsX6_within) := goodIn_app (goodIn_of _ (by decide +kernel)) ggX6_goods_X6_within
set_option maxRecDepth 20000 in
theorem ggX6_goods_X6_finding : GoodIn wsX6_goods wsX6_finding := goodIn_r _ [14, 15, 16, 17, 18, 19, 20, 21, 22, 23, 24, 25, 26, 27, 28, 29, 30, 31] (by decide +kernel) (by decide +kernel)
set_option maxRecDepth 20000 in
theorem gX6_goods_X6_finding : GoodIn wsX6_goods (wsV RX6 49 RX6 yX6_finding wsX6_finding) := goodIn_app (goodIn_of _ (by decide +kernel)) ggX6_goods_X6_finding
theorem dX6_goods_0 : decode cX6_goods 0 = .ok (.aload_n 0, 1) := by decide +kernel
theorem dX6_goods_1 : decode cX6_goods 1 = .ok (.iload_n 1, 1) := by decide +kernel
theorem dX6_goods_2 : decode cX6_goods 2 = .ok (.invokevirtual 54, 3) := by decide +kernel
theorem dX6_goods_5 : decode cX6_goods 5 = .ok (.ifCond .eq 14, 3) := by decide +kernel
theorem dX6_goods_8 : decode cX6_goods 8 = .ok (.iload_n 2, 1) := by decide +kernel
theorem dX6_goods_9 : decode cX6_goods 9 = .ok (.iconst 0, 1) := by decide +kernel
theorem dX6_goods_10 : decode cX6_goods 10 = .ok (.sipush 4095, 3) := by decide +kernel
theorem dX6_goods_13 : decode cX6_goods 13 = .ok (.invokestatic 44, 3) := by decide +kernel
theorem dX6_goods_16 : decode cX6_goods 16 = .ok (.ifCond .ne 10, 3) := by decide +kernel
theorem dX6_goods_19 : decode cX6_goods 19 = .ok (.aload_n 0, 1) := by decide +kernel
theorem dX6_goods_20 : decode cX6_goods 20 = .ok (.ldc 48, 2) := by decide +kernel
theorem dX6_goods_22 : decode cX6_goods 22 = .ok (.invokevirtual 49, 3) := by decide +kernel
theorem dX6_goods_25 : decode cX6_goods 25 = .ok (.ireturn, 1) := by decide +kernel
theorem dX6_goods_26 : decode cX6_goods 26 = .ok (.aload_n 0, 1) := by decide +kernel
theorem dX6_goods_27 : decode cX6_goods 27 = .ok (.getfield 9, 3) := by decide +kernel
theorem dX6_goods_30 : decode cX6_goods 30 = .ok (.bipush 32, 2) := by decide +kernel
theorem dX6_goods_32 : decode cX6_goods 32 = .ok (.iload_n 1, 1) := by decide +kernel
theorem dX6_goods_33 : decode cX6_goods 33 = .ok (.iadd, 1) := by decide +kernel
theorem dX6_goods_34 : decode cX6_goods 34 = .ok (.iaload, 1) := by decide +kernel
theorem dX6_goods_35 : decode cX6_goods 35 = .ok (.istore_n 3, 1) := by decide +kernel
theorem dX6_goods_36 : decode cX6_goods 36 = .ok (.aload_n 0, 1) := by decide +kernel
theorem dX6_goods_37 : decode cX6_goods 37 = .ok (.getfield 9, 3) := by decide +kernel
theorem dX6_goods_40 : decode cX6_goods 40 = .ok (.bipush 32, 2) := by decide +kernel
theorem dX6_goods_42 : decode cX6_goods 42 = .ok (.iload_n 1, 1) := by decide +kernel
theorem dX6_goods_43 : decode cX6_goods 43 = .ok (.iadd, 1) := by decide +kernel
theorem dX6_goods_44 : decode cX6_goods 44 = .ok (.iload_n 2, 1) := by decide +kernel
theorem dX6_goods_45 : decode cX6_goods 45 = .ok (.iastore, 1) := by decide +kernel
theorem dX6_goods_46 : decode cX6_goods 46 = .ok (.iload_n 3, 1) := by decide +kernel
theorem dX6_goods_47 : decode cX6_goods 47 = .ok (.ireturn, 1) := by decide +kernel
theorem dX6_doesCut_0 : decode cX6_doesCut 0 = .ok (.aload_n 0, 1) := by decide +kernel
theorem dX6_doesCut_1 : decode cX6_doesCut 1 = .ok (.getfield 9, 3) := by decide +kernel
theorem dX6_doesCut_4 : decode cX6_doesCut 4 = .ok (.bipush 62, 2) := by decide +kernel
theorem dX6_doesCut_6 : decode cX6_doesCut 6 = .ok (.iload_n 1, 1) := by decide +kernel
theorem dX6_doesCut_7 : decode cX6_doesCut 7 = .ok (.iadd, 1) := by decide +kernel
theorem dX6_doesCut_8 : decode cX6_doesCut 8 = .ok (.iaload, 1) := by decide +kernel
theorem dX6_doesCut_9 : decode cX6_doesCut 9 = .ok (.iload_n 2, 1) := by decide +kernel
theorem dX6_doesCut_10 : decode cX6_doesCut 10 = .ok (.ishr, 1) := by decide +kernel
theorem dX6_doesCut_11 : decode cX6_doesCut 11 = .ok (.iconst 1, 1) := by decide +kernel
theorem dX6_doesCut_12 : decode cX6_doesCut 12 = .ok (.iand, 1) := by decide +kernel
theorem dX6_doesCut_13 : decode cX6_doesCut 13 = .ok (.iconst 1, 1) := by decide +kernel
theorem dX6_doesCut_14 : decode cX6_doesCut 14 = .ok (.if_icmp .ne 7, 3) := by decide +kernel
theorem dX6_doesCut_17 : decode cX6_doesCut 17 = .ok (.iconst 1, 1) := by decide +kernel
theorem dX6_doesCut_18 : decode cX6_doesCut 18 = .ok (.goto 4, 3) := by decide +kernel
theorem dX6_doesCut_21 : decode cX6_doesCut 21 = .ok (.iconst 0, 1) := by decide +kernel
theorem dX6_doesCut_22 : decode cX6_doesCut 22 = .ok (.ireturn, 1) := by decide +kernel
set_option maxRecDepth 20000 in
theorem ggX6_cutBy_X6_doesCut : GoodIn wsX6_cutBy wsX6_doesCut := goodIn_r _ [6, 1, 7, 8, 9, 10, 11, 12, 13, 14, 15, 16, 17, 18, 19, 20, 21, 22] (by decide +kernel) (by decide +kernel)
set_option maxRecDepth 20000 in
theorem gX6_cutBy_X6_doesCut : GoodIn wsX6_cutBy (wsV RX6 59 RX6 yX6_doesCut wsX6_doesCut) := goodIn_app (goodIn_of _ (by decide +kernel)) ggX6_cutBy_X6_doesCut
theorem dX6_cutBy_0 : decode cX6_cutBy 0 = .ok (.iconst 0, 1) := by decide +kernel
theorem dX6_cutBy_1 : decode cX6_cutBy 1 = .ok (.istore_n 2, 1) := by decide +kernel
theorem dX6_cutBy_2 : decode cX6_cutBy 2 = .ok (.iconst 0, 1) := by decide +kernel
theorem dX6_cutBy_3 : decode cX6_cutBy 3 = .ok (.istore_n 3, 1) := by decide +kernel
theorem dX6_cutBy_4 : decode cX6_cutBy 4 = .ok (.iload_n 3, 1) := by decide +kernel
theorem dX6_cutBy_5 : decode cX6_cutBy 5 = .ok (.aload_n 0, 1) := by decide +kernel
theorem dX6_cutBy_6 : decode cX6_cutBy 6 = .ok (.getfield 9, 3) := by decide +kernel
theorem dX6_cutBy_9 : decode cX6_cutBy 9 = .ok (.iconst 0, 1) := by decide +kernel
theorem dX6_cutBy_10 : decode cX6_cutBy 10 = .ok (.iaload, 1) := by decide +kernel
theorem dX6_cutBy_11 : decode cX6_cutBy 11 = .ok (.if_icmp .ge 26, 3) := by decide +kernel
theorem dX6_cutBy_14 : decode cX6_cutBy 14 = .ok (.iload_n 2, 1) := by decide +kernel
theorem dX6_cutBy_15 : decode cX6_cutBy 15 = .ok (.aload_n 0, 1) := by decide +kernel
theorem dX6_cutBy_16 : decode cX6_cutBy 16 = .ok (.iload_n 3, 1) := by decide +kernel
theorem dX6_cutBy_17 : decode cX6_cutBy 17 = .ok (.iload_n 1, 1) := by decide +kernel
theorem dX6_cutBy_18 : decode cX6_cutBy 18 = .ok (.invokevirtual 59, 3) := by decide +kernel
theorem dX6_cutBy_21 : decode cX6_cutBy 21 = .ok (.ifCond .eq 7, 3) := by decide +kernel
theorem dX6_cutBy_24 : decode cX6_cutBy 24 = .ok (.iconst 1, 1) := by decide +kernel
theorem dX6_cutBy_25 : decode cX6_cutBy 25 = .ok (.goto 4, 3) := by decide +kernel
theorem dX6_cutBy_28 : decode cX6_cutBy 28 = .ok (.iconst 0, 1) := by decide +kernel
theorem dX6_cutBy_29 : decode cX6_cutBy 29 = .ok (.iadd, 1) := by decide +kernel
theorem dX6_cutBy_30 : decode cX6_cutBy 30 = .ok (.istore_n 2, 1) := by decide +kernel
theorem dX6_cutBy_31 : decode cX6_cutBy 31 = .ok (.iinc 3 1, 3) := by decide +kernel
theorem dX6_cutBy_34 : decode cX6_cutBy 34 = .ok (.goto (-30), 3) := by decide +kernel
theorem dX6_cutBy_37 : decode cX6_cutBy 37 = .ok (.iload_n 2, 1) := by decide +kernel
theorem dX6_cutBy_38 : decode cX6_cutBy 38 = .ok (.ireturn, 1) := by decide +kernel
set_option maxRecDepth 20000 in
theorem ggX6_of_X6_isGrave : GoodIn wsX6_of wsX6_isGrave := goodIn_r _ [7, 2, 8, 9, 6, 10, 27, 28, 29, 30, 31, 32, 33, 34, 35, 36, 37, 38, 39, 40, 41, 42] (by decide +kernel) (by decide +kernel)
set_option maxRecDepth 20000 in
theorem gX6_of_X6_isGrave : GoodIn wsX6_of (wsV RX6 54 RX6 yX6_isGrave wsX6_isGrave) := goodIn_app (goodIn_of _ (by decide +kernel)) ggX6_of_X6_isGrave
set_option maxRecDepth 20000 in
theorem ggX6_of_X6_within : GoodIn wsX6_of wsX6_within := goodIn_r _ [10] (by decide +kernel) (by decide +kernel)
set_option maxRecDepth 20000 in
theorem gX6_of_X6_within : GoodIn wsX6_of (va_wsS RX6 44 yX6_within wsX6_within) := goodIn_app (goodIn_of _ (by decide +kernel)) ggX6_of_X6_within
set_option maxRecDepth 20000 in
theorem ggX6_of_X6_finding : GoodIn wsX6_of wsX6_finding := goodIn_r _ [14, 15, 27, 28, 29, 30, 31, 32, 33, 34, 35, 36, 37, 38, 39, 40, 41, 42] (by decide +kernel) (by decide +kernel)
set_option maxRecDepth 20000 in
theorem gX6_of_X6_finding : GoodIn wsX6_of (wsV RX6 49 RX6 yX6_finding wsX6_finding) := goodIn_app (goodIn_of _ (by decide +kernel)) ggX6_of_X6_finding
set_option maxRecDepth 20000 in
theorem ggX6_of_X6_many : GoodIn wsX6_of wsX6_many := goodIn_r _ [18] (by decide +kernel) (by decide +kernel)
set_option maxRecDepth 20000 in
theorem gX6_of_X6_many : GoodIn wsX6_of (va_wsS RX6 63 yX6_many wsX6_many) := goodIn_app (goodIn_of _ (by decide +kernel)) ggX6_of_X6_many
set_option maxRecDepth 20000 in
theorem ggX6_of_X6_cutBy : GoodIn wsX6_of wsX6_cutBy := goodIn_r _ [22, 2, 23, 24, 25, 6, 26, 27, 28, 29, 30, 31, 32, 33, 34, 35, 36, 37, 38, 39, 40, 41, 42] (by decide +kernel) (by decide +kernel)
set_option maxRecDepth 20000 in
theorem gX6_of_X6_cutBy : GoodIn wsX6_of (wsV RX6 66 RX6 yX6_cutBy wsX6_cutBy) := goodIn_app (goodIn_of _ (by decide +kernel)) ggX6_of_X6_cutBy
theorem dX6_of_0 : decode cX6_of 0 = .ok (.aload_n 0, 1) := by decide +kernel
theorem dX6_of_1 : decode cX6_of 1 = .ok (.iload_n 1, 1) := by decide +kernel
theorem dX6_of_2 : decode cX6_of 2 = .ok (.invokevirtual 54, 3) := by decide +kernel
theorem dX6_of_5 : decode cX6_of 5 = .ok (.ifCond .eq 13, 3) := by decide +kernel
theorem dX6_of_8 : decode cX6_of 8 = .ok (.iload_n 2, 1) := by decide +kernel
theorem dX6_of_9 : decode cX6_of 9 = .ok (.iconst 0, 1) := by decide +kernel
theorem dX6_of_10 : decode cX6_of 10 = .ok (.bipush 7, 2) := by decide +kernel
theorem dX6_of_12 : decode cX6_of 12 = .ok (.invokestatic 44, 3) := by decide +kernel
theorem dX6_of_15 : decode cX6_of 15 = .ok (.ifCond .ne 10, 3) := by decide +kernel
theorem dX6_of_18 : decode cX6_of 18 = .ok (.aload_n 0, 1) := by decide +kernel
theorem dX6_of_19 : decode cX6_of 19 = .ok (.ldc 48, 2) := by decide +kernel
theorem dX6_of_21 : decode cX6_of 21 = .ok (.invokevirtual 49, 3) := by decide +kernel
theorem dX6_of_24 : decode cX6_of 24 = .ok (.ireturn, 1) := by decide +kernel
theorem dX6_of_25 : decode cX6_of 25 = .ok (.iload_n 2, 1) := by decide +kernel
theorem dX6_of_26 : decode cX6_of 26 = .ok (.bipush 6, 2) := by decide +kernel
theorem dX6_of_28 : decode cX6_of 28 = .ok (.if_icmp .ge 19, 3) := by decide +kernel
theorem dX6_of_31 : decode cX6_of 31 = .ok (.aload_n 0, 1) := by decide +kernel
theorem dX6_of_32 : decode cX6_of 32 = .ok (.getfield 9, 3) := by decide +kernel
theorem dX6_of_35 : decode cX6_of 35 = .ok (.iconst 2, 1) := by decide +kernel
theorem dX6_of_36 : decode cX6_of 36 = .ok (.bipush 10, 2) := by decide +kernel
theorem dX6_of_38 : decode cX6_of 38 = .ok (.iload_n 2, 1) := by decide +kernel
theorem dX6_of_39 : decode cX6_of 39 = .ok (.imul, 1) := by decide +kernel
theorem dX6_of_40 : decode cX6_of 40 = .ok (.iadd, 1) := by decide +kernel
theorem dX6_of_41 : decode cX6_of 41 = .ok (.iload_n 1, 1) := by decide +kernel
theorem dX6_of_42 : decode cX6_of 42 = .ok (.iadd, 1) := by decide +kernel
theorem dX6_of_43 : decode cX6_of 43 = .ok (.iaload, 1) := by decide +kernel
theorem dX6_of_44 : decode cX6_of 44 = .ok (.goto 29, 3) := by decide +kernel
theorem dX6_of_47 : decode cX6_of 47 = .ok (.iload_n 2, 1) := by decide +kernel
theorem dX6_of_48 : decode cX6_of 48 = .ok (.bipush 6, 2) := by decide +kernel
theorem dX6_of_50 : decode cX6_of 50 = .ok (.if_icmp .ne 18, 3) := by decide +kernel
theorem dX6_of_53 : decode cX6_of 53 = .ok (.aload_n 0, 1) := by decide +kernel
theorem dX6_of_54 : decode cX6_of 54 = .ok (.getfield 9, 3) := by decide +kernel
theorem dX6_of_57 : decode cX6_of 57 = .ok (.bipush 62, 2) := by decide +kernel
theorem dX6_of_59 : decode cX6_of 59 = .ok (.iload_n 1, 1) := by decide +kernel
theorem dX6_of_60 : decode cX6_of 60 = .ok (.iadd, 1) := by decide +kernel
theorem dX6_of_61 : decode cX6_of 61 = .ok (.iaload, 1) := by decide +kernel
theorem dX6_of_62 : decode cX6_of 62 = .ok (.invokestatic 63, 3) := by decide +kernel
theorem dX6_of_65 : decode cX6_of 65 = .ok (.goto 8, 3) := by decide +kernel
theorem dX6_of_68 : decode cX6_of 68 = .ok (.aload_n 0, 1) := by decide +kernel
theorem dX6_of_69 : decode cX6_of 69 = .ok (.iload_n 1, 1) := by decide +kernel
theorem dX6_of_70 : decode cX6_of 70 = .ok (.invokevirtual 66, 3) := by decide +kernel
theorem dX6_of_73 : decode cX6_of 73 = .ok (.ireturn, 1) := by decide +kernel
set_option maxRecDepth 20000 in
theorem ggX6_isYear_X6_within : GoodIn wsX6_isYear wsX6_within := goodIn_r _ [4] (by decide +kernel) (by decide +kernel)
set_option maxRecDepth 20000 in
theorem gX6_isYear_X6_within : GoodIn wsX6_isYear (va_wsS RX6 44 yX6_within wsX6_within) := goodIn_app (goodIn_of _ (by decide +kernel)) ggX6_isYear_X6_within
theorem dX6_isYear_0 : decode cX6_isYear 0 = .ok (.iload_n 0, 1) := by decide +kernel
theorem dX6_isYear_1 : decode cX6_isYear 1 = .ok (.sipush (-5000), 3) := by decide +kernel
theorem dX6_isYear_4 : decode cX6_isYear 4 = .ok (.sipush 5000, 3) := by decide +kernel
theorem dX6_isYear_7 : decode cX6_isYear 7 = .ok (.invokestatic 44, 3) := by decide +kernel
theorem dX6_isYear_10 : decode cX6_isYear 10 = .ok (.ireturn, 1) := by decide +kernel
set_option maxRecDepth 20000 in
theorem ggX6_span_X6_isGrave : GoodIn wsX6_span wsX6_isGrave := goodIn_r _ [8, 3, 9, 10, 7, 11, 20, 21, 22, 23, 24, 25, 26, 27, 28, 29, 30, 31, 32, 33, 34, 35] (by decide +kernel) (by decide +kernel)
set_option maxRecDepth 20000 in
theorem gX6_span_X6_isGrave : GoodIn wsX6_span (wsV RX6 54 RX6 yX6_isGrave wsX6_isGrave) := goodIn_app (goodIn_of _ (by decide +kernel)) ggX6_span_X6_isGrave
set_option maxRecDepth 20000 in
theorem ggX6_span_X6_isYear : GoodIn wsX6_span wsX6_isYear := goodIn_r _ [14, 9, 10, 7, 11] (by decide +kernel) (by decide +kernel)
set_option maxRecDepth 20000 in
theorem gX6_span_X6_isYear : GoodIn wsX6_span (va_wsS RX6 69 yX6_isYear wsX6_isYear) := goodIn_app (goodIn_of _ (by decide +kernel)) ggX6_span_X6_isYear
set_option maxRecDepth 20000 in
theorem ggX6_span_X6_finding : GoodIn wsX6_span wsX6_finding := goodIn_r _ [18, 19, 20, 21, 22, 23, 24, 25, 26, 27, 28, 29, 30, 31, 32, 33, 34, 35] (by decide +kernel) (by decide +kernel)
set_option maxRecDepth 20000 in
theorem gX6_span_X6_finding : GoodIn wsX6_span (wsV RX6 49 RX6 yX6_finding wsX6_finding) := goodIn_app (goodIn_of _ (by decide +kernel)) ggX6_span_X6_finding
theorem dX6_span_0 : decode cX6_span 0 = .ok (.aload_n 0, 1) := by decide +kernel
theorem dX6_span_1 : decode cX6_span 1 = .ok (.iload_n 1, 1) := by decide +kernel
theorem dX6_span_2 : decode cX6_span 2 = .ok (.invokevirtual 54, 3) := by decide +kernel
theorem dX6_span_5 : decode cX6_span 5 = .ok (.ifCond .eq 17, 3) := by decide +kernel
theorem dX6_span_8 : decode cX6_span 8 = .ok (.iload_n 2, 1) := by decide +kernel
theorem dX6_span_9 : decode cX6_span 9 = .ok (.invokestatic 69, 3) := by decide +kernel
theorem dX6_span_12 : decode cX6_span 12 = .ok (.ifCond .eq 10, 3) := by decide +kernel
theorem dX6_span_15 : decode cX6_span 15 = .ok (.iload_n 3, 1) := by decide +kernel
theorem dX6_span_16 : decode cX6_span 16 = .ok (.invokestatic 69, 3) := by decide +kernel
theorem dX6_span_19 : decode cX6_span 19 = .ok (.ifCond .ne 10, 3) := by decide +kernel
theorem dX6_span_22 : decode cX6_span 22 = .ok (.aload_n 0, 1) := by decide +kernel
theorem dX6_span_23 : decode cX6_span 23 = .ok (.ldc 48, 2) := by decide +kernel
theorem dX6_span_25 : decode cX6_span 25 = .ok (.invokevirtual 49, 3) := by decide +kernel
theorem dX6_span_28 : decode cX6_span 28 = .ok (.ireturn, 1) := by decide +kernel
theorem dX6_span_29 : decode cX6_span 29 = .ok (.iload_n 2, 1) := by decide +kernel
theorem dX6_span_30 : decode cX6_span 30 = .ok (.iload_n 3, 1) := by decide +kernel
theorem dX6_span_31 : decode cX6_span 31 = .ok (.if_icmp .le 10, 3) := by decide +kernel
theorem dX6_span_34 : decode cX6_span 34 = .ok (.aload_n 0, 1) := by decide +kernel
theorem dX6_span_35 : decode cX6_span 35 = .ok (.ldc 72, 2) := by decide +kernel
theorem dX6_span_37 : decode cX6_span 37 = .ok (.invokevirtual 49, 3) := by decide +kernel
theorem dX6_span_40 : decode cX6_span 40 = .ok (.ireturn, 1) := by decide +kernel
theorem dX6_span_41 : decode cX6_span 41 = .ok (.aload_n 0, 1) := by decide +kernel
theorem dX6_span_42 : decode cX6_span 42 = .ok (.getfield 9, 3) := by decide +kernel
theorem dX6_span_45 : decode cX6_span 45 = .ok (.bipush 42, 2) := by decide +kernel
theorem dX6_span_47 : decode cX6_span 47 = .ok (.iload_n 1, 1) := by decide +kernel
theorem dX6_span_48 : decode cX6_span 48 = .ok (.iadd, 1) := by decide +kernel
theorem dX6_span_49 : decode cX6_span 49 = .ok (.iload_n 2, 1) := by decide +kernel
theorem dX6_span_50 : decode cX6_span 50 = .ok (.iastore, 1) := by decide +kernel
theorem dX6_span_51 : decode cX6_span 51 = .ok (.aload_n 0, 1) := by decide +kernel
theorem dX6_span_52 : decode cX6_span 52 = .ok (.getfield 9, 3) := by decide +kernel
theorem dX6_span_55 : decode cX6_span 55 = .ok (.bipush 52, 2) := by decide +kernel
theorem dX6_span_57 : decode cX6_span 57 = .ok (.iload_n 1, 1) := by decide +kernel
theorem dX6_span_58 : decode cX6_span 58 = .ok (.iadd, 1) := by decide +kernel
theorem dX6_span_59 : decode cX6_span 59 = .ok (.iload_n 3, 1) := by decide +kernel
theorem dX6_span_60 : decode cX6_span 60 = .ok (.iastore, 1) := by decide +kernel
theorem dX6_span_61 : decode cX6_span 61 = .ok (.iconst 1, 1) := by decide +kernel
theorem dX6_span_62 : decode cX6_span 62 = .ok (.ireturn, 1) := by decide +kernel
set_option maxRecDepth 20000 in
theorem ggX6_coin_X6_isGrave : GoodIn wsX6_coin wsX6_isGrave := goodIn_r _ [13, 2, 14, 15, 12, 16, 25, 26, 27, 28, 29, 30, 31, 32, 33, 34, 35, 36, 37, 38, 39, 40] (by decide +kernel) (by decide +kernel)
set_option maxRecDepth 20000 in
theorem gX6_coin_X6_isGrave : GoodIn wsX6_coin (wsV RX6 54 RX6 yX6_isGrave wsX6_isGrave) := goodIn_app (goodIn_of _ (by decide +kernel)) ggX6_coin_X6_isGrave
set_option maxRecDepth 20000 in
theorem ggX6_coin_X6_isYear : GoodIn wsX6_coin wsX6_isYear := goodIn_r _ [19, 14, 15, 12, 16] (by decide +kernel) (by decide +kernel)
set_option maxRecDepth 20000 in
theorem gX6_coin_X6_isYear : GoodIn wsX6_coin (va_wsS RX6 69 yX6_isYear wsX6_isYear) := goodIn_app (goodIn_of _ (by decide +kernel)) ggX6_coin_X6_isYear
set_option maxRecDepth 20000 in
theorem ggX6_coin_X6_finding : GoodIn wsX6_coin wsX6_finding := goodIn_r _ [23, 24, 25, 26, 27, 28, 29, 30, 31, 32, 33, 34, 35, 36, 37, 38, 39, 40] (by decide +kernel) (by decide +kernel)
set_option maxRecDepth 20000 in
theorem gX6_coin_X6_finding : GoodIn wsX6_coin (wsV RX6 49 RX6 yX6_finding wsX6_finding) := goodIn_app (goodIn_of _ (by decide +kernel)) ggX6_coin_X6_finding
theorem dX6_coin_0 : decode cX6_coin 0 = .ok (.aload_n 0, 1) := by decide +kernel
theorem dX6_coin_1 : decode cX6_coin 1 = .ok (.iload_n 1, 1) := by decide +kernel
theorem dX6_coin_2 : decode cX6_coin 2 = .ok (.invokevirtual 54, 3) := by decide +kernel
theorem dX6_coin_5 : decode cX6_coin 5 = .ok (.ifCond .eq 10, 3) := by decide +kernel
theorem dX6_coin_8 : decode cX6_coin 8 = .ok (.iload_n 2, 1) := by decide +kernel
theorem dX6_coin_9 : decode cX6_coin 9 = .ok (.invokestatic 69, 3) := by decide +kernel
theorem dX6_coin_12 : decode cX6_coin 12 = .ok (.ifCond .ne 10, 3) := by decide +kernel
theorem dX6_coin_15 : decode cX6_coin 15 = .ok (.aload_n 0, 1) := by decide +kernel
theorem dX6_coin_16 : decode cX6_coin 16 = .ok (.ldc 48, 2) := by decide +kernel
theorem dX6_coin_18 : decode cX6_coin 18 = .ok (.invokevirtual 49, 3) := by decide +kernel
theorem dX6_coin_21 : decode cX6_coin 21 = .ok (.ireturn, 1) := by decide +kernel
theorem dX6_coin_22 : decode cX6_coin 22 = .ok (.aload_n 0, 1) := by decide +kernel
theorem dX6_coin_23 : decode cX6_coin 23 = .ok (.getfield 9, 3) := by decide +kernel
theorem dX6_coin_26 : decode cX6_coin 26 = .ok (.iconst 2, 1) := by decide +kernel
theorem dX6_coin_27 : decode cX6_coin 27 = .ok (.iload_n 1, 1) := by decide +kernel
theorem dX6_coin_28 : decode cX6_coin 28 = .ok (.iadd, 1) := by decide +kernel
theorem dX6_coin_29 : decode cX6_coin 29 = .ok (.iaload, 1) := by decide +kernel
theorem dX6_coin_30 : decode cX6_coin 30 = .ok (.iconst 3, 1) := by decide +kernel
theorem dX6_coin_31 : decode cX6_coin 31 = .ok (.if_icmp .eq 10, 3) := by decide +kernel
theorem dX6_coin_34 : decode cX6_coin 34 = .ok (.aload_n 0, 1) := by decide +kernel
theorem dX6_coin_35 : decode cX6_coin 35 = .ok (.ldc 58, 2) := by decide +kernel
theorem dX6_coin_37 : decode cX6_coin 37 = .ok (.invokevirtual 49, 3) := by decide +kernel
theorem dX6_coin_40 : decode cX6_coin 40 = .ok (.ireturn, 1) := by decide +kernel
theorem dX6_coin_41 : decode cX6_coin 41 = .ok (.iload_n 2, 1) := by decide +kernel
theorem dX6_coin_42 : decode cX6_coin 42 = .ok (.aload_n 0, 1) := by decide +kernel
theorem dX6_coin_43 : decode cX6_coin 43 = .ok (.getfield 9, 3) := by decide +kernel
theorem dX6_coin_46 : decode cX6_coin 46 = .ok (.bipush 52, 2) := by decide +kernel
theorem dX6_coin_48 : decode cX6_coin 48 = .ok (.iload_n 1, 1) := by decide +kernel
theorem dX6_coin_49 : decode cX6_coin 49 = .ok (.iadd, 1) := by decide +kernel
theorem dX6_coin_50 : decode cX6_coin 50 = .ok (.iaload, 1) := by decide +kernel
theorem dX6_coin_51 : decode cX6_coin 51 = .ok (.if_icmp .le 10, 3) := by decide +kernel
theorem dX6_coin_54 : decode cX6_coin 54 = .ok (.aload_n 0, 1) := by decide +kernel
theorem dX6_coin_55 : decode cX6_coin 55 = .ok (.ldc 72, 2) := by decide +kernel
theorem dX6_coin_57 : decode cX6_coin 57 = .ok (.invokevirtual 49, 3) := by decide +kernel
theorem dX6_coin_60 : decode cX6_coin 60 = .ok (.ireturn, 1) := by decide +kernel
theorem dX6_coin_61 : decode cX6_coin 61 = .ok (.aload_n 0, 1) := by decide +kernel
theorem dX6_coin_62 : decode cX6_coin 62 = .ok (.getfield 9, 3) := by decide +kernel
theorem dX6_coin_65 : decode cX6_coin 65 = .ok (.bipush 42, 2) := by decide +kernel
theorem dX6_coin_67 : decode cX6_coin 67 = .ok (.iload_n 1, 1) := by decide +kernel
theorem dX6_coin_68 : decode cX6_coin 68 = .ok (.iadd, 1) := by decide +kernel
theorem dX6_coin_69 : decode cX6_coin 69 = .ok (.aload_n 0, 1) := by decide +kernel
theorem dX6_coin_70 : decode cX6_coin 70 = .ok (.getfield 9, 3) := by decide +kernel
theorem dX6_coin_73 : decode cX6_coin 73 = .ok (.bipush 42, 2) := by decide +kernel
theorem dX6_coin_75 : decode cX6_coin 75 = .ok (.iload_n 1, 1) := by decide +kernel
theorem dX6_coin_76 : decode cX6_coin 76 = .ok (.iadd, 1) := by decide +kernel
theorem dX6_coin_77 : decode cX6_coin 77 = .ok (.iaload, 1) := by decide +kernel
theorem dX6_coin_78 : decode cX6_coin 78 = .ok (.iload_n 2, 1) := by decide +kernel
theorem dX6_coin_79 : decode cX6_coin 79 = .ok (.invokestatic 73, 3) := by decide +kernel
theorem dX6_coin_82 : decode cX6_coin 82 = .ok (.iastore, 1) := by decide +kernel
theorem dX6_coin_83 : decode cX6_coin 83 = .ok (.aload_n 0, 1) := by decide +kernel
theorem dX6_coin_84 : decode cX6_coin 84 = .ok (.getfield 9, 3) := by decide +kernel
theorem dX6_coin_87 : decode cX6_coin 87 = .ok (.bipush 42, 2) := by decide +kernel
theorem dX6_coin_89 : decode cX6_coin 89 = .ok (.iload_n 1, 1) := by decide +kernel
theorem dX6_coin_90 : decode cX6_coin 90 = .ok (.iadd, 1) := by decide +kernel
theorem dX6_coin_91 : decode cX6_coin 91 = .ok (.iaload, 1) := by decide +kernel
theorem dX6_coin_92 : decode cX6_coin 92 = .ok (.ireturn, 1) := by decide +kernel
theorem dX6_below_0 : decode cX6_below 0 = .ok (.aload_n 0, 1) := by decide +kernel
theorem dX6_below_1 : decode cX6_below 1 = .ok (.getfield 9, 3) := by decide +kernel
theorem dX6_below_4 : decode cX6_below 4 = .ok (.bipush 62, 2) := by decide +kernel
theorem dX6_below_6 : decode cX6_below 6 = .ok (.iload_n 1, 1) := by decide +kernel
theorem dX6_below_7 : decode cX6_below 7 = .ok (.iadd, 1) := by decide +kernel
theorem dX6_below_8 : decode cX6_below 8 = .ok (.iaload, 1) := by decide +kernel
theorem dX6_below_9 : decode cX6_below 9 = .ok (.istore_n 2, 1) := by decide +kernel
theorem dX6_below_10 : decode cX6_below 10 = .ok (.iconst (-1), 1) := by decide +kernel
theorem dX6_below_11 : decode cX6_below 11 = .ok (.istore_n 3, 1) := by decide +kernel
theorem dX6_below_12 : decode cX6_below 12 = .ok (.iload_n 2, 1) := by decide +kernel
theorem dX6_below_13 : decode cX6_below 13 = .ok (.iload_n 3, 1) := by decide +kernel
theorem dX6_below_14 : decode cX6_below 14 = .ok (.if_icmp .eq 55, 3) := by decide +kernel
theorem dX6_below_17 : decode cX6_below 17 = .ok (.iload_n 2, 1) := by decide +kernel
theorem dX6_below_18 : decode cX6_below 18 = .ok (.istore_n 3, 1) := by decide +kernel
theorem dX6_below_19 : decode cX6_below 19 = .ok (.iconst 0, 1) := by decide +kernel
theorem dX6_below_20 : decode cX6_below 20 = .ok (.istore 4, 2) := by decide +kernel
theorem dX6_below_22 : decode cX6_below 22 = .ok (.iload 4, 2) := by decide +kernel
theorem dX6_below_24 : decode cX6_below 24 = .ok (.aload_n 0, 1) := by decide +kernel
theorem dX6_below_25 : decode cX6_below 25 = .ok (.getfield 9, 3) := by decide +kernel
theorem dX6_below_28 : decode cX6_below 28 = .ok (.iconst 0, 1) := by decide +kernel
theorem dX6_below_29 : decode cX6_below 29 = .ok (.iaload, 1) := by decide +kernel
theorem dX6_below_30 : decode cX6_below 30 = .ok (.if_icmp .ge 36, 3) := by decide +kernel
theorem dX6_below_33 : decode cX6_below 33 = .ok (.iload_n 2, 1) := by decide +kernel
theorem dX6_below_34 : decode cX6_below 34 = .ok (.iload_n 2, 1) := by decide +kernel
theorem dX6_below_35 : decode cX6_below 35 = .ok (.iload 4, 2) := by decide +kernel
theorem dX6_below_37 : decode cX6_below 37 = .ok (.ishr, 1) := by decide +kernel
theorem dX6_below_38 : decode cX6_below 38 = .ok (.iconst 1, 1) := by decide +kernel
theorem dX6_below_39 : decode cX6_below 39 = .ok (.iand, 1) := by decide +kernel
theorem dX6_below_40 : decode cX6_below 40 = .ok (.iconst 1, 1) := by decide +kernel
theorem dX6_below_41 : decode cX6_below 41 = .ok (.if_icmp .ne 16, 3) := by decide +kernel
theorem dX6_below_44 : decode cX6_below 44 = .ok (.aload_n 0, 1) := by decide +kernel
theorem dX6_below_45 : decode cX6_below 45 = .ok (.getfield 9, 3) := by decide +kernel
theorem dX6_below_48 : decode cX6_below 48 = .ok (.bipush 62, 2) := by decide +kernel
theorem dX6_below_50 : decode cX6_below 50 = .ok (.iload 4, 2) := by decide +kernel
theorem dX6_below_52 : decode cX6_below 52 = .ok (.iadd, 1) := by decide +kernel
theorem dX6_below_53 : decode cX6_below 53 = .ok (.iaload, 1) := by decide +kernel
theorem dX6_below_54 : decode cX6_below 54 = .ok (.goto 4, 3) := by decide +kernel
theorem dX6_below_57 : decode cX6_below 57 = .ok (.iconst 0, 1) := by decide +kernel
theorem dX6_below_58 : decode cX6_below 58 = .ok (.ior, 1) := by decide +kernel
theorem dX6_below_59 : decode cX6_below 59 = .ok (.istore_n 2, 1) := by decide +kernel
theorem dX6_below_60 : decode cX6_below 60 = .ok (.iinc 4 1, 3) := by decide +kernel
theorem dX6_below_63 : decode cX6_below 63 = .ok (.goto (-41), 3) := by decide +kernel
theorem dX6_below_66 : decode cX6_below 66 = .ok (.goto (-54), 3) := by decide +kernel
theorem dX6_below_69 : decode cX6_below 69 = .ok (.iload_n 2, 1) := by decide +kernel
theorem dX6_below_70 : decode cX6_below 70 = .ok (.ireturn, 1) := by decide +kernel
set_option maxRecDepth 20000 in
theorem ggX6_cut_X6_isGrave : GoodIn wsX6_cut wsX6_isGrave := goodIn_r _ [9, 4, 10, 11, 8, 12, 26, 27, 28, 29, 30, 31, 32, 33, 34, 35, 36, 37, 38, 39, 40, 41] (by decide +kernel) (by decide +kernel)
set_option maxRecDepth 20000 in
theorem gX6_cut_X6_isGrave : GoodIn wsX6_cut (wsV RX6 54 RX6 yX6_isGrave wsX6_isGrave) := goodIn_app (goodIn_of _ (by decide +kernel)) ggX6_cut_X6_isGrave
set_option maxRecDepth 20000 in
theorem ggX6_cut_X6_finding : GoodIn wsX6_cut wsX6_finding := goodIn_r _ [16, 17, 26, 27, 28, 29, 30, 31, 32, 33, 34, 35, 36, 37, 38, 39, 40, 41] (by decide +kernel) (by decide +kernel)
set_option maxRecDepth 20000 in
theorem gX6_cut_X6_finding : GoodIn wsX6_cut (wsV RX6 49 RX6 yX6_finding wsX6_finding) := goodIn_app (goodIn_of _ (by decide +kernel)) ggX6_cut_X6_finding
set_option maxRecDepth 20000 in
theorem ggX6_cut_X6_below : GoodIn wsX6_cut wsX6_below := goodIn_r _ [21, 4, 26, 27, 28, 29, 30, 31, 32, 33, 34, 35, 36, 37, 38, 39, 40, 41] (by decide +kernel) (by decide +kernel)
set_option maxRecDepth 20000 in
theorem gX6_cut_X6_below : GoodIn wsX6_cut (wsV RX6 79 RX6 yX6_below wsX6_below) := goodIn_app (goodIn_of _ (by decide +kernel)) ggX6_cut_X6_below
set_option maxRecDepth 20000 in
theorem ggX6_cut_X6_doesCut : GoodIn wsX6_cut wsX6_doesCut := goodIn_r _ [25, 4, 26, 27, 28, 29, 30, 31, 32, 33, 34, 35, 36, 37, 38, 39, 40, 41] (by decide +kernel) (by decide +kernel)
set_option maxRecDepth 20000 in
theorem gX6_cut_X6_doesCut : GoodIn wsX6_cut (wsV RX6 59 RX6 yX6_doesCut wsX6_doesCut) := goodIn_app (goodIn_of _ (by decide +kernel)) ggX6_cut_X6_doesCut
theorem dX6_cut_0 : decode cX6_cut 0 = .ok (.aload_n 0, 1) := by decide +kernel
theorem dX6_cut_1 : decode cX6_cut 1 = .ok (.iload_n 1, 1) := by decide +kernel
theorem dX6_cut_2 : decode cX6_cut 2 = .ok (.invokevirtual 54, 3) := by decide +kernel
theorem dX6_cut_5 : decode cX6_cut 5 = .ok (.ifCond .eq 11, 3) := by decide +kernel
theorem dX6_cut_8 : decode cX6_cut 8 = .ok (.aload_n 0, 1) := by decide +kernel
theorem dX6_cut_9 : decode cX6_cut 9 = .ok (.iload_n 2, 1) := by decide +kernel
theorem dX6_cut_10 : decode cX6_cut 10 = .ok (.invokevirtual 54, 3) := by decide +kernel
theorem dX6_cut_13 : decode cX6_cut 13 = .ok (.ifCond .ne 10, 3) := by decide +kernel
theorem dX6_cut_16 : decode cX6_cut 16 = .ok (.aload_n 0, 1) := by decide +kernel
theorem dX6_cut_17 : decode cX6_cut 17 = .ok (.ldc 48, 2) := by decide +kernel
theorem dX6_cut_19 : decode cX6_cut 19 = .ok (.invokevirtual 49, 3) := by decide +kernel
theorem dX6_cut_22 : decode cX6_cut 22 = .ok (.ireturn, 1) := by decide +kernel
theorem dX6_cut_23 : decode cX6_cut 23 = .ok (.iload_n 1, 1) := by decide +kernel
theorem dX6_cut_24 : decode cX6_cut 24 = .ok (.iload_n 2, 1) := by decide +kernel
theorem dX6_cut_25 : decode cX6_cut 25 = .ok (.if_icmp .ne 10, 3) := by decide +kernel
theorem dX6_cut_28 : decode cX6_cut 28 = .ok (.aload_n 0, 1) := by decide +kernel
theorem dX6_cut_29 : decode cX6_cut 29 = .ok (.ldc 72, 2) := by decide +kernel
theorem dX6_cut_31 : decode cX6_cut 31 = .ok (.invokevirtual 49, 3) := by decide +kernel
theorem dX6_cut_34 : decode cX6_cut 34 = .ok (.ireturn, 1) := by decide +kernel
theorem dX6_cut_35 : decode cX6_cut 35 = .ok (.iload_n 3, 1) := by decide +kernel
theorem dX6_cut_36 : decode cX6_cut 36 = .ok (.ifCond .eq 23, 3) := by decide +kernel
theorem dX6_cut_39 : decode cX6_cut 39 = .ok (.aload_n 0, 1) := by decide +kernel
theorem dX6_cut_40 : decode cX6_cut 40 = .ok (.iload_n 2, 1) := by decide +kernel
theorem dX6_cut_41 : decode cX6_cut 41 = .ok (.invokevirtual 79, 3) := by decide +kernel
theorem dX6_cut_44 : decode cX6_cut 44 = .ok (.iload_n 1, 1) := by decide +kernel
theorem dX6_cut_45 : decode cX6_cut 45 = .ok (.ishr, 1) := by decide +kernel
theorem dX6_cut_46 : decode cX6_cut 46 = .ok (.iconst 1, 1) := by decide +kernel
theorem dX6_cut_47 : decode cX6_cut 47 = .ok (.iand, 1) := by decide +kernel
theorem dX6_cut_48 : decode cX6_cut 48 = .ok (.iconst 1, 1) := by decide +kernel
theorem dX6_cut_49 : decode cX6_cut 49 = .ok (.if_icmp .ne 10, 3) := by decide +kernel
theorem dX6_cut_52 : decode cX6_cut 52 = .ok (.aload_n 0, 1) := by decide +kernel
theorem dX6_cut_53 : decode cX6_cut 53 = .ok (.ldc 82, 2) := by decide +kernel
theorem dX6_cut_55 : decode cX6_cut 55 = .ok (.invokevirtual 49, 3) := by decide +kernel
theorem dX6_cut_58 : decode cX6_cut 58 = .ok (.ireturn, 1) := by decide +kernel
theorem dX6_cut_59 : decode cX6_cut 59 = .ok (.aload_n 0, 1) := by decide +kernel
theorem dX6_cut_60 : decode cX6_cut 60 = .ok (.iload_n 1, 1) := by decide +kernel
theorem dX6_cut_61 : decode cX6_cut 61 = .ok (.iload_n 2, 1) := by decide +kernel
theorem dX6_cut_62 : decode cX6_cut 62 = .ok (.invokevirtual 59, 3) := by decide +kernel
theorem dX6_cut_65 : decode cX6_cut 65 = .ok (.istore 4, 2) := by decide +kernel
theorem dX6_cut_67 : decode cX6_cut 67 = .ok (.aload_n 0, 1) := by decide +kernel
theorem dX6_cut_68 : decode cX6_cut 68 = .ok (.getfield 9, 3) := by decide +kernel
theorem dX6_cut_71 : decode cX6_cut 71 = .ok (.bipush 62, 2) := by decide +kernel
theorem dX6_cut_73 : decode cX6_cut 73 = .ok (.iload_n 1, 1) := by decide +kernel
theorem dX6_cut_74 : decode cX6_cut 74 = .ok (.iadd, 1) := by decide +kernel
theorem dX6_cut_75 : decode cX6_cut 75 = .ok (.iload_n 3, 1) := by decide +kernel
theorem dX6_cut_76 : decode cX6_cut 76 = .ok (.ifCond .eq 19, 3) := by decide +kernel
theorem dX6_cut_79 : decode cX6_cut 79 = .ok (.aload_n 0, 1) := by decide +kernel
theorem dX6_cut_80 : decode cX6_cut 80 = .ok (.getfield 9, 3) := by decide +kernel
theorem dX6_cut_83 : decode cX6_cut 83 = .ok (.bipush 62, 2) := by decide +kernel
theorem dX6_cut_85 : decode cX6_cut 85 = .ok (.iload_n 1, 1) := by decide +kernel
theorem dX6_cut_86 : decode cX6_cut 86 = .ok (.iadd, 1) := by decide +kernel
theorem dX6_cut_87 : decode cX6_cut 87 = .ok (.iaload, 1) := by decide +kernel
theorem dX6_cut_88 : decode cX6_cut 88 = .ok (.iconst 1, 1) := by decide +kernel
theorem dX6_cut_89 : decode cX6_cut 89 = .ok (.iload_n 2, 1) := by decide +kernel
theorem dX6_cut_90 : decode cX6_cut 90 = .ok (.ishl, 1) := by decide +kernel
theorem dX6_cut_91 : decode cX6_cut 91 = .ok (.ior, 1) := by decide +kernel
theorem dX6_cut_92 : decode cX6_cut 92 = .ok (.goto 18, 3) := by decide +kernel
theorem dX6_cut_95 : decode cX6_cut 95 = .ok (.aload_n 0, 1) := by decide +kernel
theorem dX6_cut_96 : decode cX6_cut 96 = .ok (.getfield 9, 3) := by decide +kernel
theorem dX6_cut_99 : decode cX6_cut 99 = .ok (.bipush 62, 2) := by decide +kernel
theorem dX6_cut_101 : decode cX6_cut 101 = .ok (.iload_n 1, 1) := by decide +kernel
theorem dX6_cut_102 : decode cX6_cut 102 = .ok (.iadd, 1) := by decide +kernel
theorem dX6_cut_103 : decode cX6_cut 103 = .ok (.iaload, 1) := by decide +kernel
theorem dX6_cut_104 : decode cX6_cut 104 = .ok (.iconst 1, 1) := by decide +kernel
theorem dX6_cut_105 : decode cX6_cut 105 = .ok (.iload_n 2, 1) := by decide +kernel
theorem dX6_cut_106 : decode cX6_cut 106 = .ok (.ishl, 1) := by decide +kernel
theorem dX6_cut_107 : decode cX6_cut 107 = .ok (.iconst (-1), 1) := by decide +kernel
theorem dX6_cut_108 : decode cX6_cut 108 = .ok (.ixor, 1) := by decide +kernel
theorem dX6_cut_109 : decode cX6_cut 109 = .ok (.iand, 1) := by decide +kernel
theorem dX6_cut_110 : decode cX6_cut 110 = .ok (.iastore, 1) := by decide +kernel
theorem dX6_cut_111 : decode cX6_cut 111 = .ok (.iload 4, 2) := by decide +kernel
theorem dX6_cut_113 : decode cX6_cut 113 = .ok (.iload_n 3, 1) := by decide +kernel
theorem dX6_cut_114 : decode cX6_cut 114 = .ok (.if_icmp .ne 7, 3) := by decide +kernel
theorem dX6_cut_117 : decode cX6_cut 117 = .ok (.iconst 0, 1) := by decide +kernel
theorem dX6_cut_118 : decode cX6_cut 118 = .ok (.goto 4, 3) := by decide +kernel
theorem dX6_cut_121 : decode cX6_cut 121 = .ok (.iconst 1, 1) := by decide +kernel
theorem dX6_cut_122 : decode cX6_cut 122 = .ok (.ireturn, 1) := by decide +kernel
set_option maxRecDepth 20000 in
theorem ggX6_later_X6_isGrave : GoodIn wsX6_later wsX6_isGrave := goodIn_r _ [6, 7, 8, 9, 5, 10, 20, 21, 22, 23, 24, 25, 26, 27, 28, 29, 30, 31, 32, 33, 34, 35] (by decide +kernel) (by decide +kernel)
set_option maxRecDepth 20000 in
theorem gX6_later_X6_isGrave : GoodIn wsX6_later (wsV RX6 54 RX6 yX6_isGrave wsX6_isGrave) := goodIn_app (goodIn_of _ (by decide +kernel)) ggX6_later_X6_isGrave
set_option maxRecDepth 20000 in
theorem ggX6_later_X6_finding : GoodIn wsX6_later wsX6_finding := goodIn_r _ [14, 15, 20, 21, 22, 23, 24, 25, 26, 27, 28, 29, 30, 31, 32, 33, 34, 35] (by decide +kernel) (by decide +kernel)
set_option maxRecDepth 20000 in
theorem gX6_later_X6_finding : GoodIn wsX6_later (wsV RX6 49 RX6 yX6_finding wsX6_finding) := goodIn_app (goodIn_of _ (by decide +kernel)) ggX6_later_X6_finding
set_option maxRecDepth 20000 in
theorem ggX6_later_X6_below : GoodIn wsX6_later wsX6_below := goodIn_r _ [19, 7, 20, 21, 22, 23, 24, 25, 26, 27, 28, 29, 30, 31, 32, 33, 34, 35] (by decide +kernel) (by decide +kernel)
set_option maxRecDepth 20000 in
theorem gX6_later_X6_below : GoodIn wsX6_later (wsV RX6 79 RX6 yX6_below wsX6_below) := goodIn_app (goodIn_of _ (by decide +kernel)) ggX6_later_X6_below
theorem dX6_later_0 : decode cX6_later 0 = .ok (.aload_n 0, 1) := by decide +kernel
theorem dX6_later_1 : decode cX6_later 1 = .ok (.iload_n 1, 1) := by decide +kernel
theorem dX6_later_2 : decode cX6_later 2 = .ok (.invokevirtual 54, 3) := by decide +kernel
theorem dX6_later_5 : decode cX6_later 5 = .ok (.ifCond .eq 11, 3) := by decide +kernel
theorem dX6_later_8 : decode cX6_later 8 = .ok (.aload_n 0, 1) := by decide +kernel
theorem dX6_later_9 : decode cX6_later 9 = .ok (.iload_n 2, 1) := by decide +kernel
theorem dX6_later_10 : decode cX6_later 10 = .ok (.invokevirtual 54, 3) := by decide +kernel
theorem dX6_later_13 : decode cX6_later 13 = .ok (.ifCond .ne 10, 3) := by decide +kernel
theorem dX6_later_16 : decode cX6_later 16 = .ok (.aload_n 0, 1) := by decide +kernel
theorem dX6_later_17 : decode cX6_later 17 = .ok (.ldc 48, 2) := by decide +kernel
theorem dX6_later_19 : decode cX6_later 19 = .ok (.invokevirtual 49, 3) := by decide +kernel
theorem dX6_later_22 : decode cX6_later 22 = .ok (.ireturn, 1) := by decide +kernel
theorem dX6_later_23 : decode cX6_later 23 = .ok (.aload_n 0, 1) := by decide +kernel
theorem dX6_later_24 : decode cX6_later 24 = .ok (.iload_n 1, 1) := by decide +kernel
theorem dX6_later_25 : decode cX6_later 25 = .ok (.invokevirtual 79, 3) := by decide +kernel
theorem dX6_later_28 : decode cX6_later 28 = .ok (.iload_n 2, 1) := by decide +kernel
theorem dX6_later_29 : decode cX6_later 29 = .ok (.ishr, 1) := by decide +kernel
theorem dX6_later_30 : decode cX6_later 30 = .ok (.iconst 1, 1) := by decide +kernel
theorem dX6_later_31 : decode cX6_later 31 = .ok (.iand, 1) := by decide +kernel
theorem dX6_later_32 : decode cX6_later 32 = .ok (.ireturn, 1) := by decide +kernel
set_option maxRecDepth 20000 in
theorem ggX6_fill_X6_finding : GoodIn wsX6_fill wsX6_finding := goodIn_r _ [7, 8, 9, 10, 11, 12, 13, 14, 15, 16, 17, 18, 19, 20, 21, 22, 23, 24] (by decide +kernel) (by decide +kernel)
set_option maxRecDepth 20000 in
theorem gX6_fill_X6_finding : GoodIn wsX6_fill (wsV RX6 49 RX6 yX6_finding wsX6_finding) := goodIn_app (goodIn_of _ (by decide +kernel)) ggX6_fill_X6_finding
theorem dX6_fill_0 : decode cX6_fill 0 = .ok (.aload_n 0, 1) := by decide +kernel
theorem dX6_fill_1 : decode cX6_fill 1 = .ok (.getfield 9, 3) := by decide +kernel
theorem dX6_fill_4 : decode cX6_fill 4 = .ok (.iconst 0, 1) := by decide +kernel
theorem dX6_fill_5 : decode cX6_fill 5 = .ok (.iaload, 1) := by decide +kernel
theorem dX6_fill_6 : decode cX6_fill 6 = .ok (.ifCond .ne 10, 3) := by decide +kernel
theorem dX6_fill_9 : decode cX6_fill 9 = .ok (.aload_n 0, 1) := by decide +kernel
theorem dX6_fill_10 : decode cX6_fill 10 = .ok (.ldc 83, 2) := by decide +kernel
theorem dX6_fill_12 : decode cX6_fill 12 = .ok (.invokevirtual 49, 3) := by decide +kernel
theorem dX6_fill_15 : decode cX6_fill 15 = .ok (.ireturn, 1) := by decide +kernel
theorem dX6_fill_16 : decode cX6_fill 16 = .ok (.aload_n 0, 1) := by decide +kernel
theorem dX6_fill_17 : decode cX6_fill 17 = .ok (.getfield 9, 3) := by decide +kernel
theorem dX6_fill_20 : decode cX6_fill 20 = .ok (.iconst 0, 1) := by decide +kernel
theorem dX6_fill_21 : decode cX6_fill 21 = .ok (.dup2, 1) := by decide +kernel
theorem dX6_fill_22 : decode cX6_fill 22 = .ok (.iaload, 1) := by decide +kernel
theorem dX6_fill_23 : decode cX6_fill 23 = .ok (.iconst 1, 1) := by decide +kernel
theorem dX6_fill_24 : decode cX6_fill 24 = .ok (.isub, 1) := by decide +kernel
theorem dX6_fill_25 : decode cX6_fill 25 = .ok (.iastore, 1) := by decide +kernel
theorem dX6_fill_26 : decode cX6_fill 26 = .ok (.iconst 0, 1) := by decide +kernel
theorem dX6_fill_27 : decode cX6_fill 27 = .ok (.istore_n 1, 1) := by decide +kernel
theorem dX6_fill_28 : decode cX6_fill 28 = .ok (.iload_n 1, 1) := by decide +kernel
theorem dX6_fill_29 : decode cX6_fill 29 = .ok (.aload_n 0, 1) := by decide +kernel
theorem dX6_fill_30 : decode cX6_fill 30 = .ok (.getfield 9, 3) := by decide +kernel
theorem dX6_fill_33 : decode cX6_fill 33 = .ok (.iconst 0, 1) := by decide +kernel
theorem dX6_fill_34 : decode cX6_fill 34 = .ok (.iaload, 1) := by decide +kernel
theorem dX6_fill_35 : decode cX6_fill 35 = .ok (.if_icmp .ge 31, 3) := by decide +kernel
theorem dX6_fill_38 : decode cX6_fill 38 = .ok (.aload_n 0, 1) := by decide +kernel
theorem dX6_fill_39 : decode cX6_fill 39 = .ok (.getfield 9, 3) := by decide +kernel
theorem dX6_fill_42 : decode cX6_fill 42 = .ok (.bipush 62, 2) := by decide +kernel
theorem dX6_fill_44 : decode cX6_fill 44 = .ok (.iload_n 1, 1) := by decide +kernel
theorem dX6_fill_45 : decode cX6_fill 45 = .ok (.iadd, 1) := by decide +kernel
theorem dX6_fill_46 : decode cX6_fill 46 = .ok (.dup2, 1) := by decide +kernel
theorem dX6_fill_47 : decode cX6_fill 47 = .ok (.iaload, 1) := by decide +kernel
theorem dX6_fill_48 : decode cX6_fill 48 = .ok (.iconst 1, 1) := by decide +kernel
theorem dX6_fill_49 : decode cX6_fill 49 = .ok (.aload_n 0, 1) := by decide +kernel
theorem dX6_fill_50 : decode cX6_fill 50 = .ok (.getfield 9, 3) := by decide +kernel
theorem dX6_fill_53 : decode cX6_fill 53 = .ok (.iconst 0, 1) := by decide +kernel
theorem dX6_fill_54 : decode cX6_fill 54 = .ok (.iaload, 1) := by decide +kernel
theorem dX6_fill_55 : decode cX6_fill 55 = .ok (.ishl, 1) := by decide +kernel
theorem dX6_fill_56 : decode cX6_fill 56 = .ok (.iconst (-1), 1) := by decide +kernel
theorem dX6_fill_57 : decode cX6_fill 57 = .ok (.ixor, 1) := by decide +kernel
theorem dX6_fill_58 : decode cX6_fill 58 = .ok (.iand, 1) := by decide +kernel
theorem dX6_fill_59 : decode cX6_fill 59 = .ok (.iastore, 1) := by decide +kernel
theorem dX6_fill_60 : decode cX6_fill 60 = .ok (.iinc 1 1, 3) := by decide +kernel
theorem dX6_fill_63 : decode cX6_fill 63 = .ok (.goto (-35), 3) := by decide +kernel
theorem dX6_fill_66 : decode cX6_fill 66 = .ok (.aload_n 0, 1) := by decide +kernel
theorem dX6_fill_67 : decode cX6_fill 67 = .ok (.getfield 9, 3) := by decide +kernel
theorem dX6_fill_70 : decode cX6_fill 70 = .ok (.iconst 0, 1) := by decide +kernel
theorem dX6_fill_71 : decode cX6_fill 71 = .ok (.iaload, 1) := by decide +kernel
theorem dX6_fill_72 : decode cX6_fill 72 = .ok (.ireturn, 1) := by decide +kernel
set_option maxRecDepth 20000 in
theorem ggX6_isSheet_X6_within : GoodIn wsX6_isSheet wsX6_within := goodIn_r _ [4] (by decide +kernel) (by decide +kernel)
set_option maxRecDepth 20000 in
theorem gX6_isSheet_X6_within : GoodIn wsX6_isSheet (va_wsS RX6 44 yX6_within wsX6_within) := goodIn_app (goodIn_of _ (by decide +kernel)) ggX6_isSheet_X6_within
theorem dX6_isSheet_0 : decode cX6_isSheet 0 = .ok (.iload_n 0, 1) := by decide +kernel
theorem dX6_isSheet_1 : decode cX6_isSheet 1 = .ok (.iconst 0, 1) := by decide +kernel
theorem dX6_isSheet_2 : decode cX6_isSheet 2 = .ok (.iconst 3, 1) := by decide +kernel
theorem dX6_isSheet_3 : decode cX6_isSheet 3 = .ok (.invokestatic 44, 3) := by decide +kernel
theorem dX6_isSheet_6 : decode cX6_isSheet 6 = .ok (.ireturn, 1) := by decide +kernel
set_option maxRecDepth 20000 in
theorem ggX6_sheet_X6_isSheet : GoodIn wsX6_sheet wsX6_isSheet := goodIn_r _ [9, 10, 11, 8, 12] (by decide +kernel) (by decide +kernel)
set_option maxRecDepth 20000 in
theorem gX6_sheet_X6_isSheet : GoodIn wsX6_sheet (va_wsS RX6 84 yX6_isSheet wsX6_isSheet) := goodIn_app (goodIn_of _ (by decide +kernel)) ggX6_sheet_X6_isSheet
set_option maxRecDepth 20000 in
theorem ggX6_sheet_X6_finding : GoodIn wsX6_sheet wsX6_finding := goodIn_r _ [16, 17, 18, 19, 20, 21, 22, 23, 24, 25, 26, 27, 28, 29, 30, 31, 32, 33] (by decide +kernel) (by decide +kernel)
set_option maxRecDepth 20000 in
theorem gX6_sheet_X6_finding : GoodIn wsX6_sheet (wsV RX6 49 RX6 yX6_finding wsX6_finding) := goodIn_app (goodIn_of _ (by decide +kernel)) ggX6_sheet_X6_finding
theorem dX6_sheet_0 : decode cX6_sheet 0 = .ok (.iload_n 1, 1) := by decide +kernel
theorem dX6_sheet_1 : decode cX6_sheet 1 = .ok (.invokestatic 84, 3) := by decide +kernel
theorem dX6_sheet_4 : decode cX6_sheet 4 = .ok (.ifCond .eq 25, 3) := by decide +kernel
theorem dX6_sheet_7 : decode cX6_sheet 7 = .ok (.iload_n 2, 1) := by decide +kernel
theorem dX6_sheet_8 : decode cX6_sheet 8 = .ok (.ifCond .eq 28, 3) := by decide +kernel
theorem dX6_sheet_11 : decode cX6_sheet 11 = .ok (.iload_n 2, 1) := by decide +kernel
theorem dX6_sheet_12 : decode cX6_sheet 12 = .ok (.bipush 8, 2) := by decide +kernel
theorem dX6_sheet_14 : decode cX6_sheet 14 = .ok (.if_icmp .eq 22, 3) := by decide +kernel
theorem dX6_sheet_17 : decode cX6_sheet 17 = .ok (.iload_n 2, 1) := by decide +kernel
theorem dX6_sheet_18 : decode cX6_sheet 18 = .ok (.bipush 16, 2) := by decide +kernel
theorem dX6_sheet_20 : decode cX6_sheet 20 = .ok (.if_icmp .eq 16, 3) := by decide +kernel
theorem dX6_sheet_23 : decode cX6_sheet 23 = .ok (.iload_n 2, 1) := by decide +kernel
theorem dX6_sheet_24 : decode cX6_sheet 24 = .ok (.bipush 32, 2) := by decide +kernel
theorem dX6_sheet_26 : decode cX6_sheet 26 = .ok (.if_icmp .eq 10, 3) := by decide +kernel
theorem dX6_sheet_29 : decode cX6_sheet 29 = .ok (.aload_n 0, 1) := by decide +kernel
theorem dX6_sheet_30 : decode cX6_sheet 30 = .ok (.ldc 48, 2) := by decide +kernel
theorem dX6_sheet_32 : decode cX6_sheet 32 = .ok (.invokevirtual 49, 3) := by decide +kernel
theorem dX6_sheet_35 : decode cX6_sheet 35 = .ok (.ireturn, 1) := by decide +kernel
theorem dX6_sheet_36 : decode cX6_sheet 36 = .ok (.iload_n 3, 1) := by decide +kernel
theorem dX6_sheet_37 : decode cX6_sheet 37 = .ok (.ifCond .ge 10, 3) := by decide +kernel
theorem dX6_sheet_40 : decode cX6_sheet 40 = .ok (.aload_n 0, 1) := by decide +kernel
theorem dX6_sheet_41 : decode cX6_sheet 41 = .ok (.ldc 72, 2) := by decide +kernel
theorem dX6_sheet_43 : decode cX6_sheet 43 = .ok (.invokevirtual 49, 3) := by decide +kernel
theorem dX6_sheet_46 : decode cX6_sheet 46 = .ok (.ireturn, 1) := by decide +kernel
theorem dX6_sheet_47 : decode cX6_sheet 47 = .ok (.iload_n 3, 1) := by decide +kernel
theorem dX6_sheet_48 : decode cX6_sheet 48 = .ok (.bipush 12, 2) := by decide +kernel
theorem dX6_sheet_50 : decode cX6_sheet 50 = .ok (.if_icmp .le 10, 3) := by decide +kernel
theorem dX6_sheet_53 : decode cX6_sheet 53 = .ok (.aload_n 0, 1) := by decide +kernel
theorem dX6_sheet_54 : decode cX6_sheet 54 = .ok (.ldc 48, 2) := by decide +kernel
theorem dX6_sheet_56 : decode cX6_sheet 56 = .ok (.invokevirtual 49, 3) := by decide +kernel
theorem dX6_sheet_59 : decode cX6_sheet 59 = .ok (.ireturn, 1) := by decide +kernel
theorem dX6_sheet_60 : decode cX6_sheet 60 = .ok (.aload_n 0, 1) := by decide +kernel
theorem dX6_sheet_61 : decode cX6_sheet 61 = .ok (.getfield 16, 3) := by decide +kernel
theorem dX6_sheet_64 : decode cX6_sheet 64 = .ok (.iload_n 1, 1) := by decide +kernel
theorem dX6_sheet_65 : decode cX6_sheet 65 = .ok (.iload_n 2, 1) := by decide +kernel
theorem dX6_sheet_66 : decode cX6_sheet 66 = .ok (.iastore, 1) := by decide +kernel
theorem dX6_sheet_67 : decode cX6_sheet 67 = .ok (.aload_n 0, 1) := by decide +kernel
theorem dX6_sheet_68 : decode cX6_sheet 68 = .ok (.getfield 19, 3) := by decide +kernel
theorem dX6_sheet_71 : decode cX6_sheet 71 = .ok (.iload_n 1, 1) := by decide +kernel
theorem dX6_sheet_72 : decode cX6_sheet 72 = .ok (.iload_n 2, 1) := by decide +kernel
theorem dX6_sheet_73 : decode cX6_sheet 73 = .ok (.ifCond .ne 7, 3) := by decide +kernel
theorem dX6_sheet_76 : decode cX6_sheet 76 = .ok (.iconst 0, 1) := by decide +kernel
theorem dX6_sheet_77 : decode cX6_sheet 77 = .ok (.goto 4, 3) := by decide +kernel
theorem dX6_sheet_80 : decode cX6_sheet 80 = .ok (.iload_n 3, 1) := by decide +kernel
theorem dX6_sheet_81 : decode cX6_sheet 81 = .ok (.iastore, 1) := by decide +kernel
theorem dX6_sheet_82 : decode cX6_sheet 82 = .ok (.iconst 0, 1) := by decide +kernel
theorem dX6_sheet_83 : decode cX6_sheet 83 = .ok (.istore 4, 2) := by decide +kernel
theorem dX6_sheet_85 : decode cX6_sheet 85 = .ok (.iload 4, 2) := by decide +kernel
theorem dX6_sheet_87 : decode cX6_sheet 87 = .ok (.bipush 12, 2) := by decide +kernel
theorem dX6_sheet_89 : decode cX6_sheet 89 = .ok (.if_icmp .ge 22, 3) := by decide +kernel
theorem dX6_sheet_92 : decode cX6_sheet 92 = .ok (.aload_n 0, 1) := by decide +kernel
theorem dX6_sheet_93 : decode cX6_sheet 93 = .ok (.getfield 22, 3) := by decide +kernel
theorem dX6_sheet_96 : decode cX6_sheet 96 = .ok (.bipush 12, 2) := by decide +kernel
theorem dX6_sheet_98 : decode cX6_sheet 98 = .ok (.iload_n 1, 1) := by decide +kernel
theorem dX6_sheet_99 : decode cX6_sheet 99 = .ok (.imul, 1) := by decide +kernel
theorem dX6_sheet_100 : decode cX6_sheet 100 = .ok (.iload 4, 2) := by decide +kernel
theorem dX6_sheet_102 : decode cX6_sheet 102 = .ok (.iadd, 1) := by decide +kernel
theorem dX6_sheet_103 : decode cX6_sheet 103 = .ok (.iconst 0, 1) := by decide +kernel
theorem dX6_sheet_104 : decode cX6_sheet 104 = .ok (.iastore, 1) := by decide +kernel
theorem dX6_sheet_105 : decode cX6_sheet 105 = .ok (.iinc 4 1, 3) := by decide +kernel
theorem dX6_sheet_108 : decode cX6_sheet 108 = .ok (.goto (-23), 3) := by decide +kernel
theorem dX6_sheet_111 : decode cX6_sheet 111 = .ok (.aload_n 0, 1) := by decide +kernel
theorem dX6_sheet_112 : decode cX6_sheet 112 = .ok (.getfield 19, 3) := by decide +kernel
theorem dX6_sheet_115 : decode cX6_sheet 115 = .ok (.iload_n 1, 1) := by decide +kernel
theorem dX6_sheet_116 : decode cX6_sheet 116 = .ok (.iaload, 1) := by decide +kernel
theorem dX6_sheet_117 : decode cX6_sheet 117 = .ok (.ireturn, 1) := by decide +kernel
set_option maxRecDepth 20000 in
theorem ggX6_put_X6_isSheet : GoodIn wsX6_put wsX6_isSheet := goodIn_r _ [10, 11, 12, 9, 13] (by decide +kernel) (by decide +kernel)
set_option maxRecDepth 20000 in
theorem gX6_put_X6_isSheet : GoodIn wsX6_put (va_wsS RX6 84 yX6_isSheet wsX6_isSheet) := goodIn_app (goodIn_of _ (by decide +kernel)) ggX6_put_X6_isSheet
set_option maxRecDepth 20000 in
theorem ggX6_put_X6_finding : GoodIn wsX6_put wsX6_finding := goodIn_r _ [17, 18, 19, 20, 21, 22, 23, 24, 25, 26, 27, 28, 29, 30, 31, 32, 33, 34] (by decide +kernel) (by decide +kernel)
set_option maxRecDepth 20000 in
theorem gX6_put_X6_finding : GoodIn wsX6_put (wsV RX6 49 RX6 yX6_finding wsX6_finding) := goodIn_app (goodIn_of _ (by decide +kernel)) ggX6_put_X6_finding
set_option maxRecDepth 20000 in
theorem ggX6_put_X6_within : GoodIn wsX6_put wsX6_within := goodIn_r _ [13] (by decide +kernel) (by decide +kernel)
set_option maxRecDepth 20000 in
theorem gX6_put_X6_within : GoodIn wsX6_put (va_wsS RX6 44 yX6_within wsX6_within) := goodIn_app (goodIn_of _ (by decide +kernel)) ggX6_put_X6_within
theorem dX6_put_0 : decode cX6_put 0 = .ok (.iload_n 1, 1) := by decide +kernel
theorem dX6_put_1 : decode cX6_put 1 = .ok (.invokestatic 84, 3) := by decide +kernel
theorem dX6_put_4 : decode cX6_put 4 = .ok (.ifCond .ne 10, 3) := by decide +kernel
theorem dX6_put_7 : decode cX6_put 7 = .ok (.aload_n 0, 1) := by decide +kernel
theorem dX6_put_8 : decode cX6_put 8 = .ok (.ldc 48, 2) := by decide +kernel
theorem dX6_put_10 : decode cX6_put 10 = .ok (.invokevirtual 49, 3) := by decide +kernel
theorem dX6_put_13 : decode cX6_put 13 = .ok (.ireturn, 1) := by decide +kernel
theorem dX6_put_14 : decode cX6_put 14 = .ok (.aload_n 0, 1) := by decide +kernel
theorem dX6_put_15 : decode cX6_put 15 = .ok (.getfield 16, 3) := by decide +kernel
theorem dX6_put_18 : decode cX6_put 18 = .ok (.iload_n 1, 1) := by decide +kernel
theorem dX6_put_19 : decode cX6_put 19 = .ok (.iaload, 1) := by decide +kernel
theorem dX6_put_20 : decode cX6_put 20 = .ok (.ifCond .ne 10, 3) := by decide +kernel
theorem dX6_put_23 : decode cX6_put 23 = .ok (.aload_n 0, 1) := by decide +kernel
theorem dX6_put_24 : decode cX6_put 24 = .ok (.ldc 87, 2) := by decide +kernel
theorem dX6_put_26 : decode cX6_put 26 = .ok (.invokevirtual 49, 3) := by decide +kernel
theorem dX6_put_29 : decode cX6_put 29 = .ok (.ireturn, 1) := by decide +kernel
theorem dX6_put_30 : decode cX6_put 30 = .ok (.iload_n 2, 1) := by decide +kernel
theorem dX6_put_31 : decode cX6_put 31 = .ok (.iconst 0, 1) := by decide +kernel
theorem dX6_put_32 : decode cX6_put 32 = .ok (.aload_n 0, 1) := by decide +kernel
theorem dX6_put_33 : decode cX6_put 33 = .ok (.getfield 19, 3) := by decide +kernel
theorem dX6_put_36 : decode cX6_put 36 = .ok (.iload_n 1, 1) := by decide +kernel
theorem dX6_put_37 : decode cX6_put 37 = .ok (.iaload, 1) := by decide +kernel
theorem dX6_put_38 : decode cX6_put 38 = .ok (.iconst 1, 1) := by decide +kernel
theorem dX6_put_39 : decode cX6_put 39 = .ok (.isub, 1) := by decide +kernel
theorem dX6_put_40 : decode cX6_put 40 = .ok (.invokestatic 44, 3) := by decide +kernel
theorem dX6_put_43 : decode cX6_put 43 = .ok (.ifCond .ne 10, 3) := by decide +kernel
theorem dX6_put_46 : decode cX6_put 46 = .ok (.aload_n 0, 1) := by decide +kernel
theorem dX6_put_47 : decode cX6_put 47 = .ok (.ldc 48, 2) := by decide +kernel
theorem dX6_put_49 : decode cX6_put 49 = .ok (.invokevirtual 49, 3) := by decide +kernel
theorem dX6_put_52 : decode cX6_put 52 = .ok (.ireturn, 1) := by decide +kernel
theorem dX6_put_53 : decode cX6_put 53 = .ok (.aload_n 0, 1) := by decide +kernel
theorem dX6_put_54 : decode cX6_put 54 = .ok (.getfield 22, 3) := by decide +kernel
theorem dX6_put_57 : decode cX6_put 57 = .ok (.bipush 12, 2) := by decide +kernel
theorem dX6_put_59 : decode cX6_put 59 = .ok (.iload_n 1, 1) := by decide +kernel
theorem dX6_put_60 : decode cX6_put 60 = .ok (.imul, 1) := by decide +kernel
theorem dX6_put_61 : decode cX6_put 61 = .ok (.iload_n 2, 1) := by decide +kernel
theorem dX6_put_62 : decode cX6_put 62 = .ok (.iadd, 1) := by decide +kernel
theorem dX6_put_63 : decode cX6_put 63 = .ok (.aload_n 0, 1) := by decide +kernel
theorem dX6_put_64 : decode cX6_put 64 = .ok (.getfield 16, 3) := by decide +kernel
theorem dX6_put_67 : decode cX6_put 67 = .ok (.iload_n 1, 1) := by decide +kernel
theorem dX6_put_68 : decode cX6_put 68 = .ok (.iaload, 1) := by decide +kernel
theorem dX6_put_69 : decode cX6_put 69 = .ok (.bipush 8, 2) := by decide +kernel
theorem dX6_put_71 : decode cX6_put 71 = .ok (.if_icmp .ne 11, 3) := by decide +kernel
theorem dX6_put_74 : decode cX6_put 74 = .ok (.iload_n 3, 1) := by decide +kernel
theorem dX6_put_75 : decode cX6_put 75 = .ok (.sipush 255, 3) := by decide +kernel
theorem dX6_put_78 : decode cX6_put 78 = .ok (.iand, 1) := by decide +kernel
theorem dX6_put_79 : decode cX6_put 79 = .ok (.goto 22, 3) := by decide +kernel
theorem dX6_put_82 : decode cX6_put 82 = .ok (.aload_n 0, 1) := by decide +kernel
theorem dX6_put_83 : decode cX6_put 83 = .ok (.getfield 16, 3) := by decide +kernel
theorem dX6_put_86 : decode cX6_put 86 = .ok (.iload_n 1, 1) := by decide +kernel
theorem dX6_put_87 : decode cX6_put 87 = .ok (.iaload, 1) := by decide +kernel
theorem dX6_put_88 : decode cX6_put 88 = .ok (.bipush 16, 2) := by decide +kernel
theorem dX6_put_90 : decode cX6_put 90 = .ok (.if_icmp .ne 10, 3) := by decide +kernel
theorem dX6_put_93 : decode cX6_put 93 = .ok (.iload_n 3, 1) := by decide +kernel
theorem dX6_put_94 : decode cX6_put 94 = .ok (.ldc 88, 2) := by decide +kernel
theorem dX6_put_96 : decode cX6_put 96 = .ok (.iand, 1) := by decide +kernel
theorem dX6_put_97 : decode cX6_put 97 = .ok (.goto 4, 3) := by decide +kernel
theorem dX6_put_100 : decode cX6_put 100 = .ok (.iload_n 3, 1) := by decide +kernel
theorem dX6_put_101 : decode cX6_put 101 = .ok (.iastore, 1) := by decide +kernel
theorem dX6_put_102 : decode cX6_put 102 = .ok (.iconst 0, 1) := by decide +kernel
theorem dX6_put_103 : decode cX6_put 103 = .ok (.ireturn, 1) := by decide +kernel
set_option maxRecDepth 20000 in
theorem ggX6_copy_X6_isSheet : GoodIn wsX6_copy wsX6_isSheet := goodIn_r _ [11, 12, 13, 10, 14] (by decide +kernel) (by decide +kernel)
set_option maxRecDepth 20000 in
theorem gX6_copy_X6_isSheet : GoodIn wsX6_copy (va_wsS RX6 84 yX6_isSheet wsX6_isSheet) := goodIn_app (goodIn_of _ (by decide +kernel)) ggX6_copy_X6_isSheet
set_option maxRecDepth 20000 in
theorem ggX6_copy_X6_finding : GoodIn wsX6_copy wsX6_finding := goodIn_r _ [18, 19, 20, 21, 22, 23, 24, 25, 26, 27, 28, 29, 30, 31, 32, 33, 34, 35] (by decide +kernel) (by decide +kernel)
set_option maxRecDepth 20000 in
theorem gX6_copy_X6_finding : GoodIn wsX6_copy (wsV RX6 49 RX6 yX6_finding wsX6_finding) := goodIn_app (goodIn_of _ (by decide +kernel)) ggX6_copy_X6_finding
theorem dX6_copy_0 : decode cX6_copy 0 = .ok (.iload_n 1, 1) := by decide +kernel
theorem dX6_copy_1 : decode cX6_copy 1 = .ok (.invokestatic 84, 3) := by decide +kernel
theorem dX6_copy_4 : decode cX6_copy 4 = .ok (.ifCond .eq 10, 3) := by decide +kernel
theorem dX6_copy_7 : decode cX6_copy 7 = .ok (.iload_n 3, 1) := by decide +kernel
theorem dX6_copy_8 : decode cX6_copy 8 = .ok (.invokestatic 84, 3) := by decide +kernel
theorem dX6_copy_11 : decode cX6_copy 11 = .ok (.ifCond .ne 10, 3) := by decide +kernel
theorem dX6_copy_14 : decode cX6_copy 14 = .ok (.aload_n 0, 1) := by decide +kernel
theorem dX6_copy_15 : decode cX6_copy 15 = .ok (.ldc 48, 2) := by decide +kernel
theorem dX6_copy_17 : decode cX6_copy 17 = .ok (.invokevirtual 49, 3) := by decide +kernel
theorem dX6_copy_20 : decode cX6_copy 20 = .ok (.ireturn, 1) := by decide +kernel
theorem dX6_copy_21 : decode cX6_copy 21 = .ok (.aload_n 0, 1) := by decide +kernel
theorem dX6_copy_22 : decode cX6_copy 22 = .ok (.getfield 16, 3) := by decide +kernel
theorem dX6_copy_25 : decode cX6_copy 25 = .ok (.iload_n 1, 1) := by decide +kernel
theorem dX6_copy_26 : decode cX6_copy 26 = .ok (.iaload, 1) := by decide +kernel
theorem dX6_copy_27 : decode cX6_copy 27 = .ok (.ifCond .eq 12, 3) := by decide +kernel
theorem dX6_copy_30 : decode cX6_copy 30 = .ok (.aload_n 0, 1) := by decide +kernel
theorem dX6_copy_31 : decode cX6_copy 31 = .ok (.getfield 16, 3) := by decide +kernel
theorem dX6_copy_34 : decode cX6_copy 34 = .ok (.iload_n 3, 1) := by decide +kernel
theorem dX6_copy_35 : decode cX6_copy 35 = .ok (.iaload, 1) := by decide +kernel
theorem dX6_copy_36 : decode cX6_copy 36 = .ok (.ifCond .ne 10, 3) := by decide +kernel
theorem dX6_copy_39 : decode cX6_copy 39 = .ok (.aload_n 0, 1) := by decide +kernel
theorem dX6_copy_40 : decode cX6_copy 40 = .ok (.ldc 87, 2) := by decide +kernel
theorem dX6_copy_42 : decode cX6_copy 42 = .ok (.invokevirtual 49, 3) := by decide +kernel
theorem dX6_copy_45 : decode cX6_copy 45 = .ok (.ireturn, 1) := by decide +kernel
theorem dX6_copy_46 : decode cX6_copy 46 = .ok (.aload_n 0, 1) := by decide +kernel
theorem dX6_copy_47 : decode cX6_copy 47 = .ok (.getfield 16, 3) := by decide +kernel
theorem dX6_copy_50 : decode cX6_copy 50 = .ok (.iload_n 1, 1) := by decide +kernel
theorem dX6_copy_51 : decode cX6_copy 51 = .ok (.iaload, 1) := by decide +kernel
theorem dX6_copy_52 : decode cX6_copy 52 = .ok (.aload_n 0, 1) := by decide +kernel
theorem dX6_copy_53 : decode cX6_copy 53 = .ok (.getfield 16, 3) := by decide +kernel
theorem dX6_copy_56 : decode cX6_copy 56 = .ok (.iload_n 3, 1) := by decide +kernel
theorem dX6_copy_57 : decode cX6_copy 57 = .ok (.iaload, 1) := by decide +kernel
theorem dX6_copy_58 : decode cX6_copy 58 = .ok (.if_icmp .eq 10, 3) := by decide +kernel
theorem dX6_copy_61 : decode cX6_copy 61 = .ok (.aload_n 0, 1) := by decide +kernel
theorem dX6_copy_62 : decode cX6_copy 62 = .ok (.ldc 58, 2) := by decide +kernel
theorem dX6_copy_64 : decode cX6_copy 64 = .ok (.invokevirtual 49, 3) := by decide +kernel
theorem dX6_copy_67 : decode cX6_copy 67 = .ok (.ireturn, 1) := by decide +kernel
theorem dX6_copy_68 : decode cX6_copy 68 = .ok (.iload_n 2, 1) := by decide +kernel
theorem dX6_copy_69 : decode cX6_copy 69 = .ok (.ifCond .lt 48, 3) := by decide +kernel
theorem dX6_copy_72 : decode cX6_copy 72 = .ok (.iload 4, 2) := by decide +kernel
theorem dX6_copy_74 : decode cX6_copy 74 = .ok (.ifCond .lt 43, 3) := by decide +kernel
theorem dX6_copy_77 : decode cX6_copy 77 = .ok (.iload 5, 2) := by decide +kernel
theorem dX6_copy_79 : decode cX6_copy 79 = .ok (.ifCond .lt 38, 3) := by decide +kernel
theorem dX6_copy_82 : decode cX6_copy 82 = .ok (.iload_n 2, 1) := by decide +kernel
theorem dX6_copy_83 : decode cX6_copy 83 = .ok (.i2l, 1) := by decide +kernel
theorem dX6_copy_84 : decode cX6_copy 84 = .ok (.iload 5, 2) := by decide +kernel
theorem dX6_copy_86 : decode cX6_copy 86 = .ok (.i2l, 1) := by decide +kernel
theorem dX6_copy_87 : decode cX6_copy 87 = .ok (.ladd, 1) := by decide +kernel
theorem dX6_copy_88 : decode cX6_copy 88 = .ok (.aload_n 0, 1) := by decide +kernel
theorem dX6_copy_89 : decode cX6_copy 89 = .ok (.getfield 19, 3) := by decide +kernel
theorem dX6_copy_92 : decode cX6_copy 92 = .ok (.iload_n 1, 1) := by decide +kernel
theorem dX6_copy_93 : decode cX6_copy 93 = .ok (.iaload, 1) := by decide +kernel
theorem dX6_copy_94 : decode cX6_copy 94 = .ok (.i2l, 1) := by decide +kernel
theorem dX6_copy_95 : decode cX6_copy 95 = .ok (.lcmp, 1) := by decide +kernel
theorem dX6_copy_96 : decode cX6_copy 96 = .ok (.ifCond .gt 21, 3) := by decide +kernel
theorem dX6_copy_99 : decode cX6_copy 99 = .ok (.iload 4, 2) := by decide +kernel
theorem dX6_copy_101 : decode cX6_copy 101 = .ok (.i2l, 1) := by decide +kernel
theorem dX6_copy_102 : decode cX6_copy 102 = .ok (.iload 5, 2) := by decide +kernel
theorem dX6_copy_104 : decode cX6_copy 104 = .ok (.i2l, 1) := by decide +kernel
theorem dX6_copy_105 : decode cX6_copy 105 = .ok (.ladd, 1) := by decide +kernel
theorem dX6_copy_106 : decode cX6_copy 106 = .ok (.aload_n 0, 1) := by decide +kernel
theorem dX6_copy_107 : decode cX6_copy 107 = .ok (.getfield 19, 3) := by decide +kernel
theorem dX6_copy_110 : decode cX6_copy 110 = .ok (.iload_n 3, 1) := by decide +kernel
theorem dX6_copy_111 : decode cX6_copy 111 = .ok (.iaload, 1) := by decide +kernel
theorem dX6_copy_112 : decode cX6_copy 112 = .ok (.i2l, 1) := by decide +kernel
theorem dX6_copy_113 : decode cX6_copy 113 = .ok (.lcmp, 1) := by decide +kernel
theorem dX6_copy_114 : decode cX6_copy 114 = .ok (.ifCond .le 10, 3) := by decide +kernel
theorem dX6_copy_117 : decode cX6_copy 117 = .ok (.aload_n 0, 1) := by decide +kernel
theorem dX6_copy_118 : decode cX6_copy 118 = .ok (.ldc 48, 2) := by decide +kernel
theorem dX6_copy_120 : decode cX6_copy 120 = .ok (.invokevirtual 49, 3) := by decide +kernel
theorem dX6_copy_123 : decode cX6_copy 123 = .ok (.ireturn, 1) := by decide +kernel
theorem dX6_copy_124 : decode cX6_copy 124 = .ok (.iconst 0, 1) := by decide +kernel
theorem dX6_copy_125 : decode cX6_copy 125 = .ok (.istore 6, 2) := by decide +kernel
theorem dX6_copy_127 : decode cX6_copy 127 = .ok (.iload 6, 2) := by decide +kernel
theorem dX6_copy_129 : decode cX6_copy 129 = .ok (.iload 5, 2) := by decide +kernel
theorem dX6_copy_131 : decode cX6_copy 131 = .ok (.if_icmp .ge 30, 3) := by decide +kernel
theorem dX6_copy_134 : decode cX6_copy 134 = .ok (.aload_n 0, 1) := by decide +kernel
theorem dX6_copy_135 : decode cX6_copy 135 = .ok (.getfield 25, 3) := by decide +kernel
theorem dX6_copy_138 : decode cX6_copy 138 = .ok (.iload 6, 2) := by decide +kernel
theorem dX6_copy_140 : decode cX6_copy 140 = .ok (.aload_n 0, 1) := by decide +kernel
theorem dX6_copy_141 : decode cX6_copy 141 = .ok (.getfield 22, 3) := by decide +kernel
theorem dX6_copy_144 : decode cX6_copy 144 = .ok (.bipush 12, 2) := by decide +kernel
theorem dX6_copy_146 : decode cX6_copy 146 = .ok (.iload_n 1, 1) := by decide +kernel
theorem dX6_copy_147 : decode cX6_copy 147 = .ok (.imul, 1) := by decide +kernel
theorem dX6_copy_148 : decode cX6_copy 148 = .ok (.iload_n 2, 1) := by decide +kernel
theorem dX6_copy_149 : decode cX6_copy 149 = .ok (.iadd, 1) := by decide +kernel
theorem dX6_copy_150 : decode cX6_copy 150 = .ok (.iload 6, 2) := by decide +kernel
theorem dX6_copy_152 : decode cX6_copy 152 = .ok (.iadd, 1) := by decide +kernel
theorem dX6_copy_153 : decode cX6_copy 153 = .ok (.iaload, 1) := by decide +kernel
theorem dX6_copy_154 : decode cX6_copy 154 = .ok (.iastore, 1) := by decide +kernel
theorem dX6_copy_155 : decode cX6_copy 155 = .ok (.iinc 6 1, 3) := by decide +kernel
theorem dX6_copy_158 : decode cX6_copy 158 = .ok (.goto (-31), 3) := by decide +kernel
theorem dX6_copy_161 : decode cX6_copy 161 = .ok (.iconst 0, 1) := by decide +kernel
theorem dX6_copy_162 : decode cX6_copy 162 = .ok (.istore 6, 2) := by decide +kernel
theorem dX6_copy_164 : decode cX6_copy 164 = .ok (.iload 6, 2) := by decide +kernel
theorem dX6_copy_166 : decode cX6_copy 166 = .ok (.iload 5, 2) := by decide +kernel
theorem dX6_copy_168 : decode cX6_copy 168 = .ok (.if_icmp .ge 31, 3) := by decide +kernel
theorem dX6_copy_171 : decode cX6_copy 171 = .ok (.aload_n 0, 1) := by decide +kernel
theorem dX6_copy_172 : decode cX6_copy 172 = .ok (.getfield 22, 3) := by decide +kernel
theorem dX6_copy_175 : decode cX6_copy 175 = .ok (.bipush 12, 2) := by decide +kernel
theorem dX6_copy_177 : decode cX6_copy 177 = .ok (.iload_n 3, 1) := by decide +kernel
theorem dX6_copy_178 : decode cX6_copy 178 = .ok (.imul, 1) := by decide +kernel
theorem dX6_copy_179 : decode cX6_copy 179 = .ok (.iload 4, 2) := by decide +kernel
theorem dX6_copy_181 : decode cX6_copy 181 = .ok (.iadd, 1) := by decide +kernel
theorem dX6_copy_182 : decode cX6_copy 182 = .ok (.iload 6, 2) := by decide +kernel
theorem dX6_copy_184 : decode cX6_copy 184 = .ok (.iadd, 1) := by decide +kernel
theorem dX6_copy_185 : decode cX6_copy 185 = .ok (.aload_n 0, 1) := by decide +kernel
theorem dX6_copy_186 : decode cX6_copy 186 = .ok (.getfield 25, 3) := by decide +kernel
theorem dX6_copy_189 : decode cX6_copy 189 = .ok (.iload 6, 2) := by decide +kernel
theorem dX6_copy_191 : decode cX6_copy 191 = .ok (.iaload, 1) := by decide +kernel
theorem dX6_copy_192 : decode cX6_copy 192 = .ok (.iastore, 1) := by decide +kernel
theorem dX6_copy_193 : decode cX6_copy 193 = .ok (.iinc 6 1, 3) := by decide +kernel
theorem dX6_copy_196 : decode cX6_copy 196 = .ok (.goto (-32), 3) := by decide +kernel
theorem dX6_copy_199 : decode cX6_copy 199 = .ok (.iload 5, 2) := by decide +kernel
theorem dX6_copy_201 : decode cX6_copy 201 = .ok (.ireturn, 1) := by decide +kernel
set_option maxRecDepth 20000 in
theorem ggX6_read_X6_isGrave : GoodIn wsX6_read wsX6_isGrave := goodIn_r _ [11, 4, 12, 13, 10, 14, 26, 27, 28, 29, 30, 31, 32, 33, 34, 35, 36, 37, 38, 39, 40, 41] (by decide +kernel) (by decide +kernel)
set_option maxRecDepth 20000 in
theorem gX6_read_X6_isGrave : GoodIn wsX6_read (wsV RX6 54 RX6 yX6_isGrave wsX6_isGrave) := goodIn_app (goodIn_of _ (by decide +kernel)) ggX6_read_X6_isGrave
set_option maxRecDepth 20000 in
theorem ggX6_read_X6_isSheet : GoodIn wsX6_read wsX6_isSheet := goodIn_r _ [17, 12, 13, 10, 14] (by decide +kernel) (by decide +kernel)
set_option maxRecDepth 20000 in
theorem gX6_read_X6_isSheet : GoodIn wsX6_read (va_wsS RX6 84 yX6_isSheet wsX6_isSheet) := goodIn_app (goodIn_of _ (by decide +kernel)) ggX6_read_X6_isSheet
set_option maxRecDepth 20000 in
theorem ggX6_read_X6_finding : GoodIn wsX6_read wsX6_finding := goodIn_r _ [21, 22, 26, 27, 28, 29, 30, 31, 32, 33, 34, 35, 36, 37, 38, 39, 40, 41] (by decide +kernel) (by decide +kernel)
set_option maxRecDepth 20000 in
theorem gX6_read_X6_finding : GoodIn wsX6_read (wsV RX6 49 RX6 yX6_finding wsX6_finding) := goodIn_app (goodIn_of _ (by decide +kernel)) ggX6_read_X6_finding
set_option maxRecDepth 20000 in
theorem ggX6_read_X6_many : GoodIn wsX6_read wsX6_many := goodIn_r _ [25] (by decide +kernel) (by decide +kernel)
set_option maxRecDepth 20000 in
theorem gX6_read_X6_many : GoodIn wsX6_read (va_wsS RX6 63 yX6_many wsX6_many) := goodIn_app (goodIn_of _ (by decide +kernel)) ggX6_read_X6_many
theorem dX6_read_0 : decode cX6_read 0 = .ok (.aload_n 0, 1) := by decide +kernel
theorem dX6_read_1 : decode cX6_read 1 = .ok (.iload_n 1, 1) := by decide +kernel
theorem dX6_read_2 : decode cX6_read 2 = .ok (.invokevirtual 54, 3) := by decide +kernel
theorem dX6_read_5 : decode cX6_read 5 = .ok (.ifCond .eq 10, 3) := by decide +kernel
theorem dX6_read_8 : decode cX6_read 8 = .ok (.iload_n 2, 1) := by decide +kernel
theorem dX6_read_9 : decode cX6_read 9 = .ok (.invokestatic 84, 3) := by decide +kernel
theorem dX6_read_12 : decode cX6_read 12 = .ok (.ifCond .ne 10, 3) := by decide +kernel
theorem dX6_read_15 : decode cX6_read 15 = .ok (.aload_n 0, 1) := by decide +kernel
theorem dX6_read_16 : decode cX6_read 16 = .ok (.ldc 48, 2) := by decide +kernel
theorem dX6_read_18 : decode cX6_read 18 = .ok (.invokevirtual 49, 3) := by decide +kernel
theorem dX6_read_21 : decode cX6_read 21 = .ok (.ireturn, 1) := by decide +kernel
theorem dX6_read_22 : decode cX6_read 22 = .ok (.aload_n 0, 1) := by decide +kernel
theorem dX6_read_23 : decode cX6_read 23 = .ok (.getfield 16, 3) := by decide +kernel
theorem dX6_read_26 : decode cX6_read 26 = .ok (.iload_n 2, 1) := by decide +kernel
theorem dX6_read_27 : decode cX6_read 27 = .ok (.iaload, 1) := by decide +kernel
theorem dX6_read_28 : decode cX6_read 28 = .ok (.ifCond .ne 10, 3) := by decide +kernel
theorem dX6_read_31 : decode cX6_read 31 = .ok (.aload_n 0, 1) := by decide +kernel
theorem dX6_read_32 : decode cX6_read 32 = .ok (.ldc 87, 2) := by decide +kernel
theorem dX6_read_34 : decode cX6_read 34 = .ok (.invokevirtual 49, 3) := by decide +kernel
theorem dX6_read_37 : decode cX6_read 37 = .ok (.ireturn, 1) := by decide +kernel
theorem dX6_read_38 : decode cX6_read 38 = .ok (.aload_n 0, 1) := by decide +kernel
theorem dX6_read_39 : decode cX6_read 39 = .ok (.getfield 9, 3) := by decide +kernel
theorem dX6_read_42 : decode cX6_read 42 = .ok (.bipush 32, 2) := by decide +kernel
theorem dX6_read_44 : decode cX6_read 44 = .ok (.iload_n 1, 1) := by decide +kernel
theorem dX6_read_45 : decode cX6_read 45 = .ok (.iadd, 1) := by decide +kernel
theorem dX6_read_46 : decode cX6_read 46 = .ok (.iaload, 1) := by decide +kernel
theorem dX6_read_47 : decode cX6_read 47 = .ok (.istore_n 3, 1) := by decide +kernel
theorem dX6_read_48 : decode cX6_read 48 = .ok (.iconst 0, 1) := by decide +kernel
theorem dX6_read_49 : decode cX6_read 49 = .ok (.istore 4, 2) := by decide +kernel
theorem dX6_read_51 : decode cX6_read 51 = .ok (.iload 4, 2) := by decide +kernel
theorem dX6_read_53 : decode cX6_read 53 = .ok (.aload_n 0, 1) := by decide +kernel
theorem dX6_read_54 : decode cX6_read 54 = .ok (.getfield 19, 3) := by decide +kernel
theorem dX6_read_57 : decode cX6_read 57 = .ok (.iload_n 2, 1) := by decide +kernel
theorem dX6_read_58 : decode cX6_read 58 = .ok (.iaload, 1) := by decide +kernel
theorem dX6_read_59 : decode cX6_read 59 = .ok (.if_icmp .ge 42, 3) := by decide +kernel
theorem dX6_read_62 : decode cX6_read 62 = .ok (.aload_n 0, 1) := by decide +kernel
theorem dX6_read_63 : decode cX6_read 63 = .ok (.getfield 22, 3) := by decide +kernel
theorem dX6_read_66 : decode cX6_read 66 = .ok (.bipush 12, 2) := by decide +kernel
theorem dX6_read_68 : decode cX6_read 68 = .ok (.iload_n 2, 1) := by decide +kernel
theorem dX6_read_69 : decode cX6_read 69 = .ok (.imul, 1) := by decide +kernel
theorem dX6_read_70 : decode cX6_read 70 = .ok (.iload 4, 2) := by decide +kernel
theorem dX6_read_72 : decode cX6_read 72 = .ok (.iadd, 1) := by decide +kernel
theorem dX6_read_73 : decode cX6_read 73 = .ok (.iaload, 1) := by decide +kernel
theorem dX6_read_74 : decode cX6_read 74 = .ok (.ifCond .eq 12, 3) := by decide +kernel
theorem dX6_read_77 : decode cX6_read 77 = .ok (.iload_n 3, 1) := by decide +kernel
theorem dX6_read_78 : decode cX6_read 78 = .ok (.iconst 1, 1) := by decide +kernel
theorem dX6_read_79 : decode cX6_read 79 = .ok (.iload 4, 2) := by decide +kernel
theorem dX6_read_81 : decode cX6_read 81 = .ok (.ishl, 1) := by decide +kernel
theorem dX6_read_82 : decode cX6_read 82 = .ok (.ior, 1) := by decide +kernel
theorem dX6_read_83 : decode cX6_read 83 = .ok (.goto 11, 3) := by decide +kernel
theorem dX6_read_86 : decode cX6_read 86 = .ok (.iload_n 3, 1) := by decide +kernel
theorem dX6_read_87 : decode cX6_read 87 = .ok (.iconst 1, 1) := by decide +kernel
theorem dX6_read_88 : decode cX6_read 88 = .ok (.iload 4, 2) := by decide +kernel
theorem dX6_read_90 : decode cX6_read 90 = .ok (.ishl, 1) := by decide +kernel
theorem dX6_read_91 : decode cX6_read 91 = .ok (.iconst (-1), 1) := by decide +kernel
theorem dX6_read_92 : decode cX6_read 92 = .ok (.ixor, 1) := by decide +kernel
theorem dX6_read_93 : decode cX6_read 93 = .ok (.iand, 1) := by decide +kernel
theorem dX6_read_94 : decode cX6_read 94 = .ok (.istore_n 3, 1) := by decide +kernel
theorem dX6_read_95 : decode cX6_read 95 = .ok (.iinc 4 1, 3) := by decide +kernel
theorem dX6_read_98 : decode cX6_read 98 = .ok (.goto (-47), 3) := by decide +kernel
theorem dX6_read_101 : decode cX6_read 101 = .ok (.aload_n 0, 1) := by decide +kernel
theorem dX6_read_102 : decode cX6_read 102 = .ok (.getfield 9, 3) := by decide +kernel
end
section
theorem dX6_read_105 : decode cX6_read 105 = .ok (.bipush 32, 2) := by decide +kernel
theorem dX6_read_107 : decode cX6_read 107 = .ok (.iload_n 1, 1) := by decide +kernel
theorem dX6_read_108 : decode cX6_read 108 = .ok (.iadd, 1) := by decide +kernel
theorem dX6_read_109 : decode cX6_read 109 = .ok (.iload_n 3, 1) := by decide +kernel
theorem dX6_read_110 : decode cX6_read 110 = .ok (.iastore, 1) := by decide +kernel
theorem dX6_read_111 : decode cX6_read 111 = .ok (.iload_n 3, 1) := by decide +kernel
theorem dX6_read_112 : decode cX6_read 112 = .ok (.invokestatic 63, 3) := by decide +kernel
theorem dX6_read_115 : decode cX6_read 115 = .ok (.ireturn, 1) := by decide +kernel
theorem dX6_mayHave_0 : decode cX6_mayHave 0 = .ok (.aload_n 0, 1) := by decide +kernel
theorem dX6_mayHave_1 : decode cX6_mayHave 1 = .ok (.getfield 9, 3) := by decide +kernel
theorem dX6_mayHave_4 : decode cX6_mayHave 4 = .ok (.iconst 2, 1) := by decide +kernel
theorem dX6_mayHave_5 : decode cX6_mayHave 5 = .ok (.iload_n 1, 1) := by decide +kernel
theorem dX6_mayHave_6 : decode cX6_mayHave 6 = .ok (.iadd, 1) := by decide +kernel
theorem dX6_mayHave_7 : decode cX6_mayHave 7 = .ok (.iaload, 1) := by decide +kernel
theorem dX6_mayHave_8 : decode cX6_mayHave 8 = .ok (.iconst 1, 1) := by decide +kernel
theorem dX6_mayHave_9 : decode cX6_mayHave 9 = .ok (.if_icmp .eq 15, 3) := by decide +kernel
theorem dX6_mayHave_12 : decode cX6_mayHave 12 = .ok (.aload_n 0, 1) := by decide +kernel
theorem dX6_mayHave_13 : decode cX6_mayHave 13 = .ok (.getfield 9, 3) := by decide +kernel
theorem dX6_mayHave_16 : decode cX6_mayHave 16 = .ok (.iconst 2, 1) := by decide +kernel
theorem dX6_mayHave_17 : decode cX6_mayHave 17 = .ok (.iload_n 1, 1) := by decide +kernel
theorem dX6_mayHave_18 : decode cX6_mayHave 18 = .ok (.iadd, 1) := by decide +kernel
theorem dX6_mayHave_19 : decode cX6_mayHave 19 = .ok (.iaload, 1) := by decide +kernel
theorem dX6_mayHave_20 : decode cX6_mayHave 20 = .ok (.iconst 3, 1) := by decide +kernel
theorem dX6_mayHave_21 : decode cX6_mayHave 21 = .ok (.if_icmp .ne 7, 3) := by decide +kernel
theorem dX6_mayHave_24 : decode cX6_mayHave 24 = .ok (.iconst 1, 1) := by decide +kernel
theorem dX6_mayHave_25 : decode cX6_mayHave 25 = .ok (.goto 4, 3) := by decide +kernel
theorem dX6_mayHave_28 : decode cX6_mayHave 28 = .ok (.iconst 0, 1) := by decide +kernel
theorem dX6_mayHave_29 : decode cX6_mayHave 29 = .ok (.ireturn, 1) := by decide +kernel
set_option maxRecDepth 20000 in
theorem ggX6_holesOf_X6_mayHave : GoodIn wsX6_holesOf wsX6_mayHave := goodIn_r _ [6, 1, 10, 11, 12, 13, 14, 15, 16, 17, 18, 19, 20, 21, 22, 23, 24, 25] (by decide +kernel) (by decide +kernel)
set_option maxRecDepth 20000 in
theorem gX6_holesOf_X6_mayHave : GoodIn wsX6_holesOf (wsV RX6 89 RX6 yX6_mayHave wsX6_mayHave) := goodIn_app (goodIn_of _ (by decide +kernel)) ggX6_holesOf_X6_mayHave
set_option maxRecDepth 20000 in
theorem ggX6_holesOf_X6_many : GoodIn wsX6_holesOf wsX6_many := goodIn_r _ [9] (by decide +kernel) (by decide +kernel)
set_option maxRecDepth 20000 in
theorem gX6_holesOf_X6_many : GoodIn wsX6_holesOf (va_wsS RX6 63 yX6_many wsX6_many) := goodIn_app (goodIn_of _ (by decide +kernel)) ggX6_holesOf_X6_many
theorem dX6_holesOf_0 : decode cX6_holesOf 0 = .ok (.aload_n 0, 1) := by decide +kernel
theorem dX6_holesOf_1 : decode cX6_holesOf 1 = .ok (.iload_n 1, 1) := by decide +kernel
theorem dX6_holesOf_2 : decode cX6_holesOf 2 = .ok (.invokevirtual 89, 3) := by decide +kernel
theorem dX6_holesOf_5 : decode cX6_holesOf 5 = .ok (.ifCond .eq 5, 3) := by decide +kernel
theorem dX6_holesOf_8 : decode cX6_holesOf 8 = .ok (.iconst 0, 1) := by decide +kernel
theorem dX6_holesOf_9 : decode cX6_holesOf 9 = .ok (.ireturn, 1) := by decide +kernel
theorem dX6_holesOf_10 : decode cX6_holesOf 10 = .ok (.iconst 0, 1) := by decide +kernel
theorem dX6_holesOf_11 : decode cX6_holesOf 11 = .ok (.istore 4, 2) := by decide +kernel
theorem dX6_holesOf_13 : decode cX6_holesOf 13 = .ok (.iconst 0, 1) := by decide +kernel
theorem dX6_holesOf_14 : decode cX6_holesOf 14 = .ok (.istore 5, 2) := by decide +kernel
theorem dX6_holesOf_16 : decode cX6_holesOf 16 = .ok (.iconst 0, 1) := by decide +kernel
theorem dX6_holesOf_17 : decode cX6_holesOf 17 = .ok (.istore 6, 2) := by decide +kernel
theorem dX6_holesOf_19 : decode cX6_holesOf 19 = .ok (.iload 6, 2) := by decide +kernel
theorem dX6_holesOf_21 : decode cX6_holesOf 21 = .ok (.aload_n 0, 1) := by decide +kernel
theorem dX6_holesOf_22 : decode cX6_holesOf 22 = .ok (.getfield 9, 3) := by decide +kernel
theorem dX6_holesOf_25 : decode cX6_holesOf 25 = .ok (.iconst 0, 1) := by decide +kernel
theorem dX6_holesOf_26 : decode cX6_holesOf 26 = .ok (.iaload, 1) := by decide +kernel
theorem dX6_holesOf_27 : decode cX6_holesOf 27 = .ok (.if_icmp .ge 58, 3) := by decide +kernel
theorem dX6_holesOf_30 : decode cX6_holesOf 30 = .ok (.iload_n 2, 1) := by decide +kernel
theorem dX6_holesOf_31 : decode cX6_holesOf 31 = .ok (.iload 6, 2) := by decide +kernel
theorem dX6_holesOf_33 : decode cX6_holesOf 33 = .ok (.ishr, 1) := by decide +kernel
theorem dX6_holesOf_34 : decode cX6_holesOf 34 = .ok (.iconst 1, 1) := by decide +kernel
theorem dX6_holesOf_35 : decode cX6_holesOf 35 = .ok (.iand, 1) := by decide +kernel
theorem dX6_holesOf_36 : decode cX6_holesOf 36 = .ok (.iconst 1, 1) := by decide +kernel
theorem dX6_holesOf_37 : decode cX6_holesOf 37 = .ok (.if_icmp .ne 21, 3) := by decide +kernel
theorem dX6_holesOf_40 : decode cX6_holesOf 40 = .ok (.iload 4, 2) := by decide +kernel
theorem dX6_holesOf_42 : decode cX6_holesOf 42 = .ok (.aload_n 0, 1) := by decide +kernel
theorem dX6_holesOf_43 : decode cX6_holesOf 43 = .ok (.getfield 9, 3) := by decide +kernel
theorem dX6_holesOf_46 : decode cX6_holesOf 46 = .ok (.bipush 32, 2) := by decide +kernel
theorem dX6_holesOf_48 : decode cX6_holesOf 48 = .ok (.iload 6, 2) := by decide +kernel
theorem dX6_holesOf_50 : decode cX6_holesOf 50 = .ok (.iadd, 1) := by decide +kernel
theorem dX6_holesOf_51 : decode cX6_holesOf 51 = .ok (.iaload, 1) := by decide +kernel
theorem dX6_holesOf_52 : decode cX6_holesOf 52 = .ok (.ior, 1) := by decide +kernel
theorem dX6_holesOf_53 : decode cX6_holesOf 53 = .ok (.istore 4, 2) := by decide +kernel
theorem dX6_holesOf_55 : decode cX6_holesOf 55 = .ok (.goto 24, 3) := by decide +kernel
theorem dX6_holesOf_58 : decode cX6_holesOf 58 = .ok (.iload 6, 2) := by decide +kernel
theorem dX6_holesOf_60 : decode cX6_holesOf 60 = .ok (.iload_n 1, 1) := by decide +kernel
theorem dX6_holesOf_61 : decode cX6_holesOf 61 = .ok (.if_icmp .eq 18, 3) := by decide +kernel
theorem dX6_holesOf_64 : decode cX6_holesOf 64 = .ok (.iload 5, 2) := by decide +kernel
theorem dX6_holesOf_66 : decode cX6_holesOf 66 = .ok (.aload_n 0, 1) := by decide +kernel
theorem dX6_holesOf_67 : decode cX6_holesOf 67 = .ok (.getfield 9, 3) := by decide +kernel
theorem dX6_holesOf_70 : decode cX6_holesOf 70 = .ok (.bipush 32, 2) := by decide +kernel
theorem dX6_holesOf_72 : decode cX6_holesOf 72 = .ok (.iload 6, 2) := by decide +kernel
theorem dX6_holesOf_74 : decode cX6_holesOf 74 = .ok (.iadd, 1) := by decide +kernel
theorem dX6_holesOf_75 : decode cX6_holesOf 75 = .ok (.iaload, 1) := by decide +kernel
theorem dX6_holesOf_76 : decode cX6_holesOf 76 = .ok (.ior, 1) := by decide +kernel
theorem dX6_holesOf_77 : decode cX6_holesOf 77 = .ok (.istore 5, 2) := by decide +kernel
theorem dX6_holesOf_79 : decode cX6_holesOf 79 = .ok (.iinc 6 1, 3) := by decide +kernel
theorem dX6_holesOf_82 : decode cX6_holesOf 82 = .ok (.goto (-63), 3) := by decide +kernel
theorem dX6_holesOf_85 : decode cX6_holesOf 85 = .ok (.iload 4, 2) := by decide +kernel
theorem dX6_holesOf_87 : decode cX6_holesOf 87 = .ok (.iload 5, 2) := by decide +kernel
theorem dX6_holesOf_89 : decode cX6_holesOf 89 = .ok (.iand, 1) := by decide +kernel
theorem dX6_holesOf_90 : decode cX6_holesOf 90 = .ok (.iload_n 3, 1) := by decide +kernel
theorem dX6_holesOf_91 : decode cX6_holesOf 91 = .ok (.iand, 1) := by decide +kernel
theorem dX6_holesOf_92 : decode cX6_holesOf 92 = .ok (.aload_n 0, 1) := by decide +kernel
theorem dX6_holesOf_93 : decode cX6_holesOf 93 = .ok (.getfield 9, 3) := by decide +kernel
theorem dX6_holesOf_96 : decode cX6_holesOf 96 = .ok (.bipush 32, 2) := by decide +kernel
theorem dX6_holesOf_98 : decode cX6_holesOf 98 = .ok (.iload_n 1, 1) := by decide +kernel
theorem dX6_holesOf_99 : decode cX6_holesOf 99 = .ok (.iadd, 1) := by decide +kernel
theorem dX6_holesOf_100 : decode cX6_holesOf 100 = .ok (.iaload, 1) := by decide +kernel
theorem dX6_holesOf_101 : decode cX6_holesOf 101 = .ok (.iconst (-1), 1) := by decide +kernel
theorem dX6_holesOf_102 : decode cX6_holesOf 102 = .ok (.ixor, 1) := by decide +kernel
theorem dX6_holesOf_103 : decode cX6_holesOf 103 = .ok (.iand, 1) := by decide +kernel
theorem dX6_holesOf_104 : decode cX6_holesOf 104 = .ok (.invokestatic 63, 3) := by decide +kernel
theorem dX6_holesOf_107 : decode cX6_holesOf 107 = .ok (.ireturn, 1) := by decide +kernel
set_option maxRecDepth 20000 in
theorem ggX6_search_X6_holesOf : GoodIn wsX6_search wsX6_holesOf := goodIn_r _ [11, 1, 12, 13, 14, 10, 15, 16, 17, 18, 24, 25, 26, 27, 28, 29, 30, 31, 32, 33, 34, 35, 36, 37, 38, 39] (by decide +kernel) (by decide +kernel)
set_option maxRecDepth 20000 in
theorem gX6_search_X6_holesOf : GoodIn wsX6_search (wsV RX6 98 RX6 yX6_holesOf wsX6_holesOf) := goodIn_app (goodIn_of _ (by decide +kernel)) ggX6_search_X6_holesOf
set_option maxRecDepth 20000 in
theorem ggX6_search_X6_take : GoodIn wsX6_search wsX6_take := goodIn_r _ [22, 2, 3, 23, 6, 24, 25, 26, 27, 28, 29, 30, 31, 32, 33, 34, 35, 36, 37, 38, 39] (by decide +kernel) (by decide +kernel)
set_option maxRecDepth 20000 in
theorem gX6_search_X6_take : GoodIn wsX6_search (wsV RX6 102 RX6 yX6_take wsX6_take) := goodIn_app (goodIn_of _ (by decide +kernel)) ggX6_search_X6_take
theorem dX6_search_0 : decode cX6_search 0 = .ok (.aload_n 0, 1) := by decide +kernel
theorem dX6_search_1 : decode cX6_search 1 = .ok (.getfield 9, 3) := by decide +kernel
theorem dX6_search_4 : decode cX6_search 4 = .ok (.iconst 0, 1) := by decide +kernel
theorem dX6_search_5 : decode cX6_search 5 = .ok (.iaload, 1) := by decide +kernel
theorem dX6_search_6 : decode cX6_search 6 = .ok (.istore_n 2, 1) := by decide +kernel
theorem dX6_search_7 : decode cX6_search 7 = .ok (.aload_n 0, 1) := by decide +kernel
theorem dX6_search_8 : decode cX6_search 8 = .ok (.sipush 1000, 3) := by decide +kernel
theorem dX6_search_11 : decode cX6_search 11 = .ok (.putfield 92, 3) := by decide +kernel
theorem dX6_search_14 : decode cX6_search 14 = .ok (.aload_n 0, 1) := by decide +kernel
theorem dX6_search_15 : decode cX6_search 15 = .ok (.iconst 0, 1) := by decide +kernel
theorem dX6_search_16 : decode cX6_search 16 = .ok (.putfield 95, 3) := by decide +kernel
theorem dX6_search_19 : decode cX6_search 19 = .ok (.iconst 0, 1) := by decide +kernel
theorem dX6_search_20 : decode cX6_search 20 = .ok (.istore_n 3, 1) := by decide +kernel
theorem dX6_search_21 : decode cX6_search 21 = .ok (.iconst 0, 1) := by decide +kernel
theorem dX6_search_22 : decode cX6_search 22 = .ok (.istore 4, 2) := by decide +kernel
theorem dX6_search_24 : decode cX6_search 24 = .ok (.aload_n 0, 1) := by decide +kernel
theorem dX6_search_25 : decode cX6_search 25 = .ok (.getfield 34, 3) := by decide +kernel
theorem dX6_search_28 : decode cX6_search 28 = .ok (.iconst 0, 1) := by decide +kernel
theorem dX6_search_29 : decode cX6_search 29 = .ok (.iconst 0, 1) := by decide +kernel
theorem dX6_search_30 : decode cX6_search 30 = .ok (.iastore, 1) := by decide +kernel
theorem dX6_search_31 : decode cX6_search 31 = .ok (.aload_n 0, 1) := by decide +kernel
theorem dX6_search_32 : decode cX6_search 32 = .ok (.getfield 37, 3) := by decide +kernel
theorem dX6_search_35 : decode cX6_search 35 = .ok (.iconst 0, 1) := by decide +kernel
theorem dX6_search_36 : decode cX6_search 36 = .ok (.iconst (-1), 1) := by decide +kernel
theorem dX6_search_37 : decode cX6_search 37 = .ok (.iastore, 1) := by decide +kernel
theorem dX6_search_38 : decode cX6_search 38 = .ok (.iload_n 3, 1) := by decide +kernel
theorem dX6_search_39 : decode cX6_search 39 = .ok (.ifCond .lt 196, 3) := by decide +kernel
theorem dX6_search_42 : decode cX6_search 42 = .ok (.aload_n 0, 1) := by decide +kernel
theorem dX6_search_43 : decode cX6_search 43 = .ok (.getfield 37, 3) := by decide +kernel
theorem dX6_search_46 : decode cX6_search 46 = .ok (.iload_n 3, 1) := by decide +kernel
theorem dX6_search_47 : decode cX6_search 47 = .ok (.iaload, 1) := by decide +kernel
theorem dX6_search_48 : decode cX6_search 48 = .ok (.ifCond .lt 18, 3) := by decide +kernel
theorem dX6_search_51 : decode cX6_search 51 = .ok (.iload 4, 2) := by decide +kernel
theorem dX6_search_53 : decode cX6_search 53 = .ok (.iconst 1, 1) := by decide +kernel
theorem dX6_search_54 : decode cX6_search 54 = .ok (.aload_n 0, 1) := by decide +kernel
theorem dX6_search_55 : decode cX6_search 55 = .ok (.getfield 37, 3) := by decide +kernel
theorem dX6_search_58 : decode cX6_search 58 = .ok (.iload_n 3, 1) := by decide +kernel
theorem dX6_search_59 : decode cX6_search 59 = .ok (.iaload, 1) := by decide +kernel
theorem dX6_search_60 : decode cX6_search 60 = .ok (.ishl, 1) := by decide +kernel
theorem dX6_search_61 : decode cX6_search 61 = .ok (.iconst (-1), 1) := by decide +kernel
theorem dX6_search_62 : decode cX6_search 62 = .ok (.ixor, 1) := by decide +kernel
theorem dX6_search_63 : decode cX6_search 63 = .ok (.iand, 1) := by decide +kernel
theorem dX6_search_64 : decode cX6_search 64 = .ok (.istore 4, 2) := by decide +kernel
theorem dX6_search_66 : decode cX6_search 66 = .ok (.aload_n 0, 1) := by decide +kernel
theorem dX6_search_67 : decode cX6_search 67 = .ok (.getfield 37, 3) := by decide +kernel
theorem dX6_search_70 : decode cX6_search 70 = .ok (.iload_n 3, 1) := by decide +kernel
theorem dX6_search_71 : decode cX6_search 71 = .ok (.iaload, 1) := by decide +kernel
theorem dX6_search_72 : decode cX6_search 72 = .ok (.iconst 1, 1) := by decide +kernel
theorem dX6_search_73 : decode cX6_search 73 = .ok (.iadd, 1) := by decide +kernel
theorem dX6_search_74 : decode cX6_search 74 = .ok (.istore 5, 2) := by decide +kernel
theorem dX6_search_76 : decode cX6_search 76 = .ok (.iload 5, 2) := by decide +kernel
theorem dX6_search_78 : decode cX6_search 78 = .ok (.iload_n 2, 1) := by decide +kernel
theorem dX6_search_79 : decode cX6_search 79 = .ok (.if_icmp .ge 61, 3) := by decide +kernel
theorem dX6_search_82 : decode cX6_search 82 = .ok (.iload 4, 2) := by decide +kernel
theorem dX6_search_84 : decode cX6_search 84 = .ok (.iload 5, 2) := by decide +kernel
theorem dX6_search_86 : decode cX6_search 86 = .ok (.ishr, 1) := by decide +kernel
theorem dX6_search_87 : decode cX6_search 87 = .ok (.iconst 1, 1) := by decide +kernel
theorem dX6_search_88 : decode cX6_search 88 = .ok (.iand, 1) := by decide +kernel
theorem dX6_search_89 : decode cX6_search 89 = .ok (.iconst 1, 1) := by decide +kernel
theorem dX6_search_90 : decode cX6_search 90 = .ok (.if_icmp .eq 44, 3) := by decide +kernel
theorem dX6_search_93 : decode cX6_search 93 = .ok (.aload_n 0, 1) := by decide +kernel
theorem dX6_search_94 : decode cX6_search 94 = .ok (.getfield 9, 3) := by decide +kernel
theorem dX6_search_97 : decode cX6_search 97 = .ok (.bipush 62, 2) := by decide +kernel
theorem dX6_search_99 : decode cX6_search 99 = .ok (.iload 5, 2) := by decide +kernel
theorem dX6_search_101 : decode cX6_search 101 = .ok (.iadd, 1) := by decide +kernel
theorem dX6_search_102 : decode cX6_search 102 = .ok (.iaload, 1) := by decide +kernel
theorem dX6_search_103 : decode cX6_search 103 = .ok (.iload 4, 2) := by decide +kernel
theorem dX6_search_105 : decode cX6_search 105 = .ok (.iconst (-1), 1) := by decide +kernel
theorem dX6_search_106 : decode cX6_search 106 = .ok (.ixor, 1) := by decide +kernel
theorem dX6_search_107 : decode cX6_search 107 = .ok (.iand, 1) := by decide +kernel
theorem dX6_search_108 : decode cX6_search 108 = .ok (.ifCond .ne 26, 3) := by decide +kernel
theorem dX6_search_111 : decode cX6_search 111 = .ok (.aload_n 0, 1) := by decide +kernel
theorem dX6_search_112 : decode cX6_search 112 = .ok (.getfield 34, 3) := by decide +kernel
theorem dX6_search_115 : decode cX6_search 115 = .ok (.iload_n 3, 1) := by decide +kernel
theorem dX6_search_116 : decode cX6_search 116 = .ok (.iaload, 1) := by decide +kernel
theorem dX6_search_117 : decode cX6_search 117 = .ok (.aload_n 0, 1) := by decide +kernel
theorem dX6_search_118 : decode cX6_search 118 = .ok (.iload 5, 2) := by decide +kernel
theorem dX6_search_120 : decode cX6_search 120 = .ok (.iload 4, 2) := by decide +kernel
theorem dX6_search_122 : decode cX6_search 122 = .ok (.iload_n 1, 1) := by decide +kernel
theorem dX6_search_123 : decode cX6_search 123 = .ok (.invokevirtual 98, 3) := by decide +kernel
theorem dX6_search_126 : decode cX6_search 126 = .ok (.iadd, 1) := by decide +kernel
theorem dX6_search_127 : decode cX6_search 127 = .ok (.aload_n 0, 1) := by decide +kernel
theorem dX6_search_128 : decode cX6_search 128 = .ok (.getfield 92, 3) := by decide +kernel
theorem dX6_search_131 : decode cX6_search 131 = .ok (.if_icmp .le 9, 3) := by decide +kernel
theorem dX6_search_134 : decode cX6_search 134 = .ok (.iinc 5 1, 3) := by decide +kernel
theorem dX6_search_137 : decode cX6_search 137 = .ok (.goto (-61), 3) := by decide +kernel
theorem dX6_search_140 : decode cX6_search 140 = .ok (.iload 5, 2) := by decide +kernel
theorem dX6_search_142 : decode cX6_search 142 = .ok (.iload_n 2, 1) := by decide +kernel
theorem dX6_search_143 : decode cX6_search 143 = .ok (.if_icmp .ne 9, 3) := by decide +kernel
theorem dX6_search_146 : decode cX6_search 146 = .ok (.iinc 3 (-1), 3) := by decide +kernel
theorem dX6_search_149 : decode cX6_search 149 = .ok (.goto (-111), 3) := by decide +kernel
theorem dX6_search_152 : decode cX6_search 152 = .ok (.aload_n 0, 1) := by decide +kernel
theorem dX6_search_153 : decode cX6_search 153 = .ok (.getfield 37, 3) := by decide +kernel
theorem dX6_search_156 : decode cX6_search 156 = .ok (.iload_n 3, 1) := by decide +kernel
theorem dX6_search_157 : decode cX6_search 157 = .ok (.iload 5, 2) := by decide +kernel
theorem dX6_search_159 : decode cX6_search 159 = .ok (.iastore, 1) := by decide +kernel
theorem dX6_search_160 : decode cX6_search 160 = .ok (.aload_n 0, 1) := by decide +kernel
theorem dX6_search_161 : decode cX6_search 161 = .ok (.getfield 31, 3) := by decide +kernel
theorem dX6_search_164 : decode cX6_search 164 = .ok (.iload_n 3, 1) := by decide +kernel
theorem dX6_search_165 : decode cX6_search 165 = .ok (.iload 5, 2) := by decide +kernel
theorem dX6_search_167 : decode cX6_search 167 = .ok (.iastore, 1) := by decide +kernel
theorem dX6_search_168 : decode cX6_search 168 = .ok (.aload_n 0, 1) := by decide +kernel
theorem dX6_search_169 : decode cX6_search 169 = .ok (.getfield 34, 3) := by decide +kernel
theorem dX6_search_172 : decode cX6_search 172 = .ok (.iload_n 3, 1) := by decide +kernel
theorem dX6_search_173 : decode cX6_search 173 = .ok (.iconst 1, 1) := by decide +kernel
theorem dX6_search_174 : decode cX6_search 174 = .ok (.iadd, 1) := by decide +kernel
theorem dX6_search_175 : decode cX6_search 175 = .ok (.aload_n 0, 1) := by decide +kernel
theorem dX6_search_176 : decode cX6_search 176 = .ok (.getfield 34, 3) := by decide +kernel
theorem dX6_search_179 : decode cX6_search 179 = .ok (.iload_n 3, 1) := by decide +kernel
theorem dX6_search_180 : decode cX6_search 180 = .ok (.iaload, 1) := by decide +kernel
theorem dX6_search_181 : decode cX6_search 181 = .ok (.aload_n 0, 1) := by decide +kernel
theorem dX6_search_182 : decode cX6_search 182 = .ok (.iload 5, 2) := by decide +kernel
theorem dX6_search_184 : decode cX6_search 184 = .ok (.iload 4, 2) := by decide +kernel
theorem dX6_search_186 : decode cX6_search 186 = .ok (.iload_n 1, 1) := by decide +kernel
theorem dX6_search_187 : decode cX6_search 187 = .ok (.invokevirtual 98, 3) := by decide +kernel
theorem dX6_search_190 : decode cX6_search 190 = .ok (.iadd, 1) := by decide +kernel
theorem dX6_search_191 : decode cX6_search 191 = .ok (.iastore, 1) := by decide +kernel
theorem dX6_search_192 : decode cX6_search 192 = .ok (.iload 4, 2) := by decide +kernel
theorem dX6_search_194 : decode cX6_search 194 = .ok (.iconst 1, 1) := by decide +kernel
theorem dX6_search_195 : decode cX6_search 195 = .ok (.iload 5, 2) := by decide +kernel
theorem dX6_search_197 : decode cX6_search 197 = .ok (.ishl, 1) := by decide +kernel
theorem dX6_search_198 : decode cX6_search 198 = .ok (.ior, 1) := by decide +kernel
theorem dX6_search_199 : decode cX6_search 199 = .ok (.istore 4, 2) := by decide +kernel
theorem dX6_search_201 : decode cX6_search 201 = .ok (.iload_n 3, 1) := by decide +kernel
theorem dX6_search_202 : decode cX6_search 202 = .ok (.iconst 1, 1) := by decide +kernel
theorem dX6_search_203 : decode cX6_search 203 = .ok (.iadd, 1) := by decide +kernel
theorem dX6_search_204 : decode cX6_search 204 = .ok (.iload_n 2, 1) := by decide +kernel
theorem dX6_search_205 : decode cX6_search 205 = .ok (.if_icmp .ne 17, 3) := by decide +kernel
theorem dX6_search_208 : decode cX6_search 208 = .ok (.aload_n 0, 1) := by decide +kernel
theorem dX6_search_209 : decode cX6_search 209 = .ok (.aload_n 0, 1) := by decide +kernel
theorem dX6_search_210 : decode cX6_search 210 = .ok (.getfield 34, 3) := by decide +kernel
theorem dX6_search_213 : decode cX6_search 213 = .ok (.iload_n 2, 1) := by decide +kernel
theorem dX6_search_214 : decode cX6_search 214 = .ok (.iaload, 1) := by decide +kernel
theorem dX6_search_215 : decode cX6_search 215 = .ok (.iload_n 2, 1) := by decide +kernel
theorem dX6_search_216 : decode cX6_search 216 = .ok (.invokevirtual 102, 3) := by decide +kernel
theorem dX6_search_219 : decode cX6_search 219 = .ok (.goto 13, 3) := by decide +kernel
theorem dX6_search_222 : decode cX6_search 222 = .ok (.iinc 3 1, 3) := by decide +kernel
theorem dX6_search_225 : decode cX6_search 225 = .ok (.aload_n 0, 1) := by decide +kernel
theorem dX6_search_226 : decode cX6_search 226 = .ok (.getfield 37, 3) := by decide +kernel
theorem dX6_search_229 : decode cX6_search 229 = .ok (.iload_n 3, 1) := by decide +kernel
theorem dX6_search_230 : decode cX6_search 230 = .ok (.iconst (-1), 1) := by decide +kernel
theorem dX6_search_231 : decode cX6_search 231 = .ok (.iastore, 1) := by decide +kernel
theorem dX6_search_232 : decode cX6_search 232 = .ok (.goto (-194), 3) := by decide +kernel
theorem dX6_search_235 : decode cX6_search 235 = .ok (.return_, 1) := by decide +kernel
theorem dX6_take_0 : decode cX6_take 0 = .ok (.iload_n 1, 1) := by decide +kernel
theorem dX6_take_1 : decode cX6_take 1 = .ok (.aload_n 0, 1) := by decide +kernel
theorem dX6_take_2 : decode cX6_take 2 = .ok (.getfield 92, 3) := by decide +kernel
theorem dX6_take_5 : decode cX6_take 5 = .ok (.if_icmp .ge 38, 3) := by decide +kernel
theorem dX6_take_8 : decode cX6_take 8 = .ok (.aload_n 0, 1) := by decide +kernel
theorem dX6_take_9 : decode cX6_take 9 = .ok (.iload_n 1, 1) := by decide +kernel
theorem dX6_take_10 : decode cX6_take 10 = .ok (.putfield 92, 3) := by decide +kernel
theorem dX6_take_13 : decode cX6_take 13 = .ok (.aload_n 0, 1) := by decide +kernel
theorem dX6_take_14 : decode cX6_take 14 = .ok (.iconst 0, 1) := by decide +kernel
theorem dX6_take_15 : decode cX6_take 15 = .ok (.putfield 95, 3) := by decide +kernel
theorem dX6_take_18 : decode cX6_take 18 = .ok (.iconst 0, 1) := by decide +kernel
theorem dX6_take_19 : decode cX6_take 19 = .ok (.istore_n 3, 1) := by decide +kernel
theorem dX6_take_20 : decode cX6_take 20 = .ok (.iload_n 3, 1) := by decide +kernel
theorem dX6_take_21 : decode cX6_take 21 = .ok (.iload_n 2, 1) := by decide +kernel
theorem dX6_take_22 : decode cX6_take 22 = .ok (.if_icmp .ge 21, 3) := by decide +kernel
theorem dX6_take_25 : decode cX6_take 25 = .ok (.aload_n 0, 1) := by decide +kernel
theorem dX6_take_26 : decode cX6_take 26 = .ok (.getfield 28, 3) := by decide +kernel
theorem dX6_take_29 : decode cX6_take 29 = .ok (.iload_n 3, 1) := by decide +kernel
theorem dX6_take_30 : decode cX6_take 30 = .ok (.aload_n 0, 1) := by decide +kernel
theorem dX6_take_31 : decode cX6_take 31 = .ok (.getfield 31, 3) := by decide +kernel
theorem dX6_take_34 : decode cX6_take 34 = .ok (.iload_n 3, 1) := by decide +kernel
theorem dX6_take_35 : decode cX6_take 35 = .ok (.iaload, 1) := by decide +kernel
theorem dX6_take_36 : decode cX6_take 36 = .ok (.iastore, 1) := by decide +kernel
theorem dX6_take_37 : decode cX6_take 37 = .ok (.iinc 3 1, 3) := by decide +kernel
theorem dX6_take_40 : decode cX6_take 40 = .ok (.goto (-20), 3) := by decide +kernel
theorem dX6_take_43 : decode cX6_take 43 = .ok (.aload_n 0, 1) := by decide +kernel
theorem dX6_take_44 : decode cX6_take 44 = .ok (.dup, 1) := by decide +kernel
theorem dX6_take_45 : decode cX6_take 45 = .ok (.getfield 95, 3) := by decide +kernel
theorem dX6_take_48 : decode cX6_take 48 = .ok (.iconst 1, 1) := by decide +kernel
theorem dX6_take_49 : decode cX6_take 49 = .ok (.iadd, 1) := by decide +kernel
theorem dX6_take_50 : decode cX6_take 50 = .ok (.putfield 95, 3) := by decide +kernel
theorem dX6_take_53 : decode cX6_take 53 = .ok (.return_, 1) := by decide +kernel
theorem dX6_noOrder_0 : decode cX6_noOrder 0 = .ok (.aload_n 0, 1) := by decide +kernel
theorem dX6_noOrder_1 : decode cX6_noOrder 1 = .ok (.getfield 9, 3) := by decide +kernel
theorem dX6_noOrder_4 : decode cX6_noOrder 4 = .ok (.iconst 0, 1) := by decide +kernel
theorem dX6_noOrder_5 : decode cX6_noOrder 5 = .ok (.iaload, 1) := by decide +kernel
theorem dX6_noOrder_6 : decode cX6_noOrder 6 = .ok (.ifCond .ne 8, 3) := by decide +kernel
theorem dX6_noOrder_9 : decode cX6_noOrder 9 = .ok (.ldc 83, 2) := by decide +kernel
theorem dX6_noOrder_11 : decode cX6_noOrder 11 = .ok (.goto 20, 3) := by decide +kernel
theorem dX6_noOrder_14 : decode cX6_noOrder 14 = .ok (.aload_n 0, 1) := by decide +kernel
theorem dX6_noOrder_15 : decode cX6_noOrder 15 = .ok (.getfield 9, 3) := by decide +kernel
theorem dX6_noOrder_18 : decode cX6_noOrder 18 = .ok (.iconst 0, 1) := by decide +kernel
theorem dX6_noOrder_19 : decode cX6_noOrder 19 = .ok (.iaload, 1) := by decide +kernel
theorem dX6_noOrder_20 : decode cX6_noOrder 20 = .ok (.bipush 8, 2) := by decide +kernel
theorem dX6_noOrder_22 : decode cX6_noOrder 22 = .ok (.if_icmp .le 8, 3) := by decide +kernel
theorem dX6_noOrder_25 : decode cX6_noOrder 25 = .ok (.ldc 106, 2) := by decide +kernel
theorem dX6_noOrder_27 : decode cX6_noOrder 27 = .ok (.goto 4, 3) := by decide +kernel
theorem dX6_noOrder_30 : decode cX6_noOrder 30 = .ok (.iconst 0, 1) := by decide +kernel
theorem dX6_noOrder_31 : decode cX6_noOrder 31 = .ok (.ireturn, 1) := by decide +kernel
set_option maxRecDepth 20000 in
theorem ggX6_order_X6_noOrder : GoodIn wsX6_order wsX6_noOrder := goodIn_r _ [6, 7, 8, 9, 39, 40, 41, 42, 43, 44, 45, 46, 47, 48, 49, 50, 51, 52, 53, 54] (by decide +kernel) (by decide +kernel)
set_option maxRecDepth 20000 in
theorem gX6_order_X6_noOrder : GoodIn wsX6_order (wsV RX6 107 RX6 yX6_noOrder wsX6_noOrder) := goodIn_app (goodIn_of _ (by decide +kernel)) ggX6_order_X6_noOrder
set_option maxRecDepth 20000 in
theorem ggX6_order_X6_finding : GoodIn wsX6_order wsX6_finding := goodIn_r _ [13, 14, 39, 40, 41, 42, 43, 44, 45, 46, 47, 48, 49, 50, 51, 52, 53, 54] (by decide +kernel) (by decide +kernel)
set_option maxRecDepth 20000 in
theorem gX6_order_X6_finding : GoodIn wsX6_order (wsV RX6 49 RX6 yX6_finding wsX6_finding) := goodIn_app (goodIn_of _ (by decide +kernel)) ggX6_order_X6_finding
set_option maxRecDepth 20000 in
theorem ggX6_order_X6_search : GoodIn wsX6_order wsX6_search := goodIn_r _ [18, 7, 1, 19, 20, 21, 22, 23, 24, 25, 5, 26, 27, 28, 29, 30, 31, 32, 33, 34, 35, 36, 37, 38, 39, 40, 41, 42, 43, 44, 45, 46, 47, 48, 49, 50, 51, 52, 53, 54] (by decide +kernel) (by decide +kernel)
set_option maxRecDepth 20000 in
theorem gX6_order_X6_search : GoodIn wsX6_order (wsV RX6 111 RX6 yX6_search wsX6_search) := goodIn_app (goodIn_of _ (by decide +kernel)) ggX6_order_X6_search
theorem dX6_order_0 : decode cX6_order 0 = .ok (.aload_n 0, 1) := by decide +kernel
theorem dX6_order_1 : decode cX6_order 1 = .ok (.invokevirtual 107, 3) := by decide +kernel
theorem dX6_order_4 : decode cX6_order 4 = .ok (.ifCond .eq 12, 3) := by decide +kernel
theorem dX6_order_7 : decode cX6_order 7 = .ok (.aload_n 0, 1) := by decide +kernel
theorem dX6_order_8 : decode cX6_order 8 = .ok (.aload_n 0, 1) := by decide +kernel
theorem dX6_order_9 : decode cX6_order 9 = .ok (.invokevirtual 107, 3) := by decide +kernel
theorem dX6_order_12 : decode cX6_order 12 = .ok (.invokevirtual 49, 3) := by decide +kernel
theorem dX6_order_15 : decode cX6_order 15 = .ok (.ireturn, 1) := by decide +kernel
theorem dX6_order_16 : decode cX6_order 16 = .ok (.aload_n 0, 1) := by decide +kernel
theorem dX6_order_17 : decode cX6_order 17 = .ok (.sipush 4095, 3) := by decide +kernel
theorem dX6_order_20 : decode cX6_order 20 = .ok (.invokevirtual 111, 3) := by decide +kernel
theorem dX6_order_23 : decode cX6_order 23 = .ok (.aload_n 0, 1) := by decide +kernel
theorem dX6_order_24 : decode cX6_order 24 = .ok (.getfield 92, 3) := by decide +kernel
theorem dX6_order_27 : decode cX6_order 27 = .ok (.ireturn, 1) := by decide +kernel
set_option maxRecDepth 20000 in
theorem ggX6_at_X6_noOrder : GoodIn wsX6_at wsX6_noOrder := goodIn_r _ [8, 1, 9, 10, 43, 44, 45, 46, 47, 48, 49, 50, 51, 52, 53, 54, 55, 56, 57, 58] (by decide +kernel) (by decide +kernel)
set_option maxRecDepth 20000 in
theorem gX6_at_X6_noOrder : GoodIn wsX6_at (wsV RX6 107 RX6 yX6_noOrder wsX6_noOrder) := goodIn_app (goodIn_of _ (by decide +kernel)) ggX6_at_X6_noOrder
set_option maxRecDepth 20000 in
theorem ggX6_at_X6_finding : GoodIn wsX6_at wsX6_finding := goodIn_r _ [14, 15, 43, 44, 45, 46, 47, 48, 49, 50, 51, 52, 53, 54, 55, 56, 57, 58] (by decide +kernel) (by decide +kernel)
set_option maxRecDepth 20000 in
theorem gX6_at_X6_finding : GoodIn wsX6_at (wsV RX6 49 RX6 yX6_finding wsX6_finding) := goodIn_app (goodIn_of _ (by decide +kernel)) ggX6_at_X6_finding
set_option maxRecDepth 20000 in
theorem ggX6_at_X6_within : GoodIn wsX6_at wsX6_within := goodIn_r _ [18] (by decide +kernel) (by decide +kernel)
set_option maxRecDepth 20000 in
theorem gX6_at_X6_within : GoodIn wsX6_at (va_wsS RX6 44 yX6_within wsX6_within) := goodIn_app (goodIn_of _ (by decide +kernel)) ggX6_at_X6_within
set_option maxRecDepth 20000 in
theorem ggX6_at_X6_search : GoodIn wsX6_at wsX6_search := goodIn_r _ [22, 1, 23, 24, 25, 26, 27, 28, 29, 30, 7, 31, 32, 33, 34, 35, 36, 37, 38, 39, 40, 41, 42, 3, 43, 44, 45, 46, 47, 48, 49, 50, 51, 52, 53, 54, 55, 56, 57, 58] (by decide +kernel) (by decide +kernel)
set_option maxRecDepth 20000 in
theorem gX6_at_X6_search : GoodIn wsX6_at (wsV RX6 111 RX6 yX6_search wsX6_search) := goodIn_app (goodIn_of _ (by decide +kernel)) ggX6_at_X6_search
theorem dX6_at_0 : decode cX6_at 0 = .ok (.aload_n 0, 1) := by decide +kernel
theorem dX6_at_1 : decode cX6_at 1 = .ok (.invokevirtual 107, 3) := by decide +kernel
theorem dX6_at_4 : decode cX6_at 4 = .ok (.ifCond .eq 12, 3) := by decide +kernel
theorem dX6_at_7 : decode cX6_at 7 = .ok (.aload_n 0, 1) := by decide +kernel
theorem dX6_at_8 : decode cX6_at 8 = .ok (.aload_n 0, 1) := by decide +kernel
theorem dX6_at_9 : decode cX6_at 9 = .ok (.invokevirtual 107, 3) := by decide +kernel
theorem dX6_at_12 : decode cX6_at 12 = .ok (.invokevirtual 49, 3) := by decide +kernel
theorem dX6_at_15 : decode cX6_at 15 = .ok (.ireturn, 1) := by decide +kernel
theorem dX6_at_16 : decode cX6_at 16 = .ok (.iload_n 1, 1) := by decide +kernel
theorem dX6_at_17 : decode cX6_at 17 = .ok (.iconst 0, 1) := by decide +kernel
theorem dX6_at_18 : decode cX6_at 18 = .ok (.aload_n 0, 1) := by decide +kernel
theorem dX6_at_19 : decode cX6_at 19 = .ok (.getfield 9, 3) := by decide +kernel
theorem dX6_at_22 : decode cX6_at 22 = .ok (.iconst 0, 1) := by decide +kernel
theorem dX6_at_23 : decode cX6_at 23 = .ok (.iaload, 1) := by decide +kernel
theorem dX6_at_24 : decode cX6_at 24 = .ok (.iconst 1, 1) := by decide +kernel
theorem dX6_at_25 : decode cX6_at 25 = .ok (.isub, 1) := by decide +kernel
theorem dX6_at_26 : decode cX6_at 26 = .ok (.invokestatic 44, 3) := by decide +kernel
theorem dX6_at_29 : decode cX6_at 29 = .ok (.ifCond .ne 10, 3) := by decide +kernel
theorem dX6_at_32 : decode cX6_at 32 = .ok (.aload_n 0, 1) := by decide +kernel
theorem dX6_at_33 : decode cX6_at 33 = .ok (.ldc 48, 2) := by decide +kernel
theorem dX6_at_35 : decode cX6_at 35 = .ok (.invokevirtual 49, 3) := by decide +kernel
theorem dX6_at_38 : decode cX6_at 38 = .ok (.ireturn, 1) := by decide +kernel
theorem dX6_at_39 : decode cX6_at 39 = .ok (.aload_n 0, 1) := by decide +kernel
theorem dX6_at_40 : decode cX6_at 40 = .ok (.sipush 4095, 3) := by decide +kernel
theorem dX6_at_43 : decode cX6_at 43 = .ok (.invokevirtual 111, 3) := by decide +kernel
theorem dX6_at_46 : decode cX6_at 46 = .ok (.aload_n 0, 1) := by decide +kernel
theorem dX6_at_47 : decode cX6_at 47 = .ok (.getfield 28, 3) := by decide +kernel
theorem dX6_at_50 : decode cX6_at 50 = .ok (.iload_n 1, 1) := by decide +kernel
theorem dX6_at_51 : decode cX6_at 51 = .ok (.iaload, 1) := by decide +kernel
theorem dX6_at_52 : decode cX6_at 52 = .ok (.ireturn, 1) := by decide +kernel
set_option maxRecDepth 20000 in
theorem ggX6_holesIn_X6_holesOf : GoodIn wsX6_holesIn wsX6_holesOf := goodIn_r _ [6, 1, 7, 8, 9, 5, 10, 11, 12, 13, 14, 15, 16, 17, 18, 19, 20, 21, 22, 23, 24, 25, 26, 27, 28, 29] (by decide +kernel) (by decide +kernel)
set_option maxRecDepth 20000 in
theorem gX6_holesIn_X6_holesOf : GoodIn wsX6_holesIn (wsV RX6 98 RX6 yX6_holesOf wsX6_holesOf) := goodIn_app (goodIn_of _ (by decide +kernel)) ggX6_holesIn_X6_holesOf
theorem dX6_holesIn_0 : decode cX6_holesIn 0 = .ok (.iconst 0, 1) := by decide +kernel
theorem dX6_holesIn_1 : decode cX6_holesIn 1 = .ok (.istore_n 3, 1) := by decide +kernel
theorem dX6_holesIn_2 : decode cX6_holesIn 2 = .ok (.iconst 0, 1) := by decide +kernel
theorem dX6_holesIn_3 : decode cX6_holesIn 3 = .ok (.istore 4, 2) := by decide +kernel
theorem dX6_holesIn_5 : decode cX6_holesIn 5 = .ok (.iconst 0, 1) := by decide +kernel
theorem dX6_holesIn_6 : decode cX6_holesIn 6 = .ok (.istore 5, 2) := by decide +kernel
theorem dX6_holesIn_8 : decode cX6_holesIn 8 = .ok (.iload 5, 2) := by decide +kernel
theorem dX6_holesIn_10 : decode cX6_holesIn 10 = .ok (.aload_n 0, 1) := by decide +kernel
theorem dX6_holesIn_11 : decode cX6_holesIn 11 = .ok (.getfield 9, 3) := by decide +kernel
theorem dX6_holesIn_14 : decode cX6_holesIn 14 = .ok (.iconst 0, 1) := by decide +kernel
theorem dX6_holesIn_15 : decode cX6_holesIn 15 = .ok (.iaload, 1) := by decide +kernel
theorem dX6_holesIn_16 : decode cX6_holesIn 16 = .ok (.if_icmp .ge 34, 3) := by decide +kernel
theorem dX6_holesIn_19 : decode cX6_holesIn 19 = .ok (.iload_n 3, 1) := by decide +kernel
theorem dX6_holesIn_20 : decode cX6_holesIn 20 = .ok (.aload_n 0, 1) := by decide +kernel
theorem dX6_holesIn_21 : decode cX6_holesIn 21 = .ok (.aload_n 1, 1) := by decide +kernel
theorem dX6_holesIn_22 : decode cX6_holesIn 22 = .ok (.iload 5, 2) := by decide +kernel
theorem dX6_holesIn_24 : decode cX6_holesIn 24 = .ok (.iaload, 1) := by decide +kernel
theorem dX6_holesIn_25 : decode cX6_holesIn 25 = .ok (.iload 4, 2) := by decide +kernel
theorem dX6_holesIn_27 : decode cX6_holesIn 27 = .ok (.iload_n 2, 1) := by decide +kernel
theorem dX6_holesIn_28 : decode cX6_holesIn 28 = .ok (.invokevirtual 98, 3) := by decide +kernel
theorem dX6_holesIn_31 : decode cX6_holesIn 31 = .ok (.iadd, 1) := by decide +kernel
theorem dX6_holesIn_32 : decode cX6_holesIn 32 = .ok (.istore_n 3, 1) := by decide +kernel
theorem dX6_holesIn_33 : decode cX6_holesIn 33 = .ok (.iload 4, 2) := by decide +kernel
theorem dX6_holesIn_35 : decode cX6_holesIn 35 = .ok (.iconst 1, 1) := by decide +kernel
theorem dX6_holesIn_36 : decode cX6_holesIn 36 = .ok (.aload_n 1, 1) := by decide +kernel
theorem dX6_holesIn_37 : decode cX6_holesIn 37 = .ok (.iload 5, 2) := by decide +kernel
theorem dX6_holesIn_39 : decode cX6_holesIn 39 = .ok (.iaload, 1) := by decide +kernel
theorem dX6_holesIn_40 : decode cX6_holesIn 40 = .ok (.ishl, 1) := by decide +kernel
theorem dX6_holesIn_41 : decode cX6_holesIn 41 = .ok (.ior, 1) := by decide +kernel
theorem dX6_holesIn_42 : decode cX6_holesIn 42 = .ok (.istore 4, 2) := by decide +kernel
theorem dX6_holesIn_44 : decode cX6_holesIn 44 = .ok (.iinc 5 1, 3) := by decide +kernel
theorem dX6_holesIn_47 : decode cX6_holesIn 47 = .ok (.goto (-39), 3) := by decide +kernel
theorem dX6_holesIn_50 : decode cX6_holesIn 50 = .ok (.iload_n 3, 1) := by decide +kernel
theorem dX6_holesIn_51 : decode cX6_holesIn 51 = .ok (.ireturn, 1) := by decide +kernel
set_option maxRecDepth 20000 in
theorem ggX6_holes_X6_isGood : GoodIn wsX6_holes wsX6_isGood := goodIn_r _ [6, 7, 8, 5, 9] (by decide +kernel) (by decide +kernel)
set_option maxRecDepth 20000 in
theorem gX6_holes_X6_isGood : GoodIn wsX6_holes (va_wsS RX6 115 yX6_isGood wsX6_isGood) := goodIn_app (goodIn_of _ (by decide +kernel)) ggX6_holes_X6_isGood
set_option maxRecDepth 20000 in
theorem ggX6_holes_X6_finding : GoodIn wsX6_holes wsX6_finding := goodIn_r _ [13, 14, 50, 51, 52, 53, 54, 55, 56, 57, 58, 59, 60, 61, 62, 63, 64, 65] (by decide +kernel) (by decide +kernel)
set_option maxRecDepth 20000 in
theorem gX6_holes_X6_finding : GoodIn wsX6_holes (wsV RX6 49 RX6 yX6_finding wsX6_finding) := goodIn_app (goodIn_of _ (by decide +kernel)) ggX6_holes_X6_finding
set_option maxRecDepth 20000 in
theorem ggX6_holes_X6_noOrder : GoodIn wsX6_holes wsX6_noOrder := goodIn_r _ [18, 19, 20, 21, 50, 51, 52, 53, 54, 55, 56, 57, 58, 59, 60, 61, 62, 63, 64, 65] (by decide +kernel) (by decide +kernel)
set_option maxRecDepth 20000 in
theorem gX6_holes_X6_noOrder : GoodIn wsX6_holes (wsV RX6 107 RX6 yX6_noOrder wsX6_noOrder) := goodIn_app (goodIn_of _ (by decide +kernel)) ggX6_holes_X6_noOrder
set_option maxRecDepth 20000 in
theorem ggX6_holes_X6_search : GoodIn wsX6_holes wsX6_search := goodIn_r _ [25, 19, 26, 27, 28, 29, 30, 31, 32, 33, 5, 34, 35, 36, 37, 38, 39, 40, 41, 42, 43, 44, 45, 2, 50, 51, 52, 53, 54, 55, 56, 57, 58, 59, 60, 61, 62, 63, 64, 65] (by decide +kernel) (by decide +kernel)
set_option maxRecDepth 20000 in
theorem gX6_holes_X6_search : GoodIn wsX6_holes (wsV RX6 111 RX6 yX6_search wsX6_search) := goodIn_app (goodIn_of _ (by decide +kernel)) ggX6_holes_X6_search
set_option maxRecDepth 20000 in
theorem ggX6_holes_X6_holesIn : GoodIn wsX6_holes wsX6_holesIn := goodIn_r _ [49, 19, 31, 32, 33, 5, 34, 35, 36, 37, 38, 39, 40, 41, 50, 51, 52, 53, 54, 55, 56, 57, 58, 59, 60, 61, 62, 63, 64, 65] (by decide +kernel) (by decide +kernel)
set_option maxRecDepth 20000 in
theorem gX6_holes_X6_holesIn : GoodIn wsX6_holes (wsV RX6 118 RX6 yX6_holesIn wsX6_holesIn) := goodIn_app (goodIn_of _ (by decide +kernel)) ggX6_holes_X6_holesIn
theorem dX6_holes_0 : decode cX6_holes 0 = .ok (.iload_n 1, 1) := by decide +kernel
theorem dX6_holes_1 : decode cX6_holes 1 = .ok (.invokestatic 115, 3) := by decide +kernel
theorem dX6_holes_4 : decode cX6_holes 4 = .ok (.ifCond .ne 10, 3) := by decide +kernel
theorem dX6_holes_7 : decode cX6_holes 7 = .ok (.aload_n 0, 1) := by decide +kernel
theorem dX6_holes_8 : decode cX6_holes 8 = .ok (.ldc 48, 2) := by decide +kernel
theorem dX6_holes_10 : decode cX6_holes 10 = .ok (.invokevirtual 49, 3) := by decide +kernel
theorem dX6_holes_13 : decode cX6_holes 13 = .ok (.ireturn, 1) := by decide +kernel
theorem dX6_holes_14 : decode cX6_holes 14 = .ok (.aload_n 0, 1) := by decide +kernel
theorem dX6_holes_15 : decode cX6_holes 15 = .ok (.invokevirtual 107, 3) := by decide +kernel
theorem dX6_holes_18 : decode cX6_holes 18 = .ok (.ifCond .eq 12, 3) := by decide +kernel
theorem dX6_holes_21 : decode cX6_holes 21 = .ok (.aload_n 0, 1) := by decide +kernel
theorem dX6_holes_22 : decode cX6_holes 22 = .ok (.aload_n 0, 1) := by decide +kernel
theorem dX6_holes_23 : decode cX6_holes 23 = .ok (.invokevirtual 107, 3) := by decide +kernel
theorem dX6_holes_26 : decode cX6_holes 26 = .ok (.invokevirtual 49, 3) := by decide +kernel
theorem dX6_holes_29 : decode cX6_holes 29 = .ok (.ireturn, 1) := by decide +kernel
theorem dX6_holes_30 : decode cX6_holes 30 = .ok (.aload_n 0, 1) := by decide +kernel
theorem dX6_holes_31 : decode cX6_holes 31 = .ok (.sipush 4095, 3) := by decide +kernel
theorem dX6_holes_34 : decode cX6_holes 34 = .ok (.invokevirtual 111, 3) := by decide +kernel
theorem dX6_holes_37 : decode cX6_holes 37 = .ok (.aload_n 0, 1) := by decide +kernel
theorem dX6_holes_38 : decode cX6_holes 38 = .ok (.aload_n 0, 1) := by decide +kernel
theorem dX6_holes_39 : decode cX6_holes 39 = .ok (.getfield 28, 3) := by decide +kernel
theorem dX6_holes_42 : decode cX6_holes 42 = .ok (.iconst 1, 1) := by decide +kernel
theorem dX6_holes_43 : decode cX6_holes 43 = .ok (.iload_n 1, 1) := by decide +kernel
theorem dX6_holes_44 : decode cX6_holes 44 = .ok (.ishl, 1) := by decide +kernel
theorem dX6_holes_45 : decode cX6_holes 45 = .ok (.invokevirtual 118, 3) := by decide +kernel
theorem dX6_holes_48 : decode cX6_holes 48 = .ok (.ireturn, 1) := by decide +kernel
theorem dX6_has_0 : decode cX6_has 0 = .ok (.aload_n 0, 1) := by decide +kernel
theorem dX6_has_1 : decode cX6_has 1 = .ok (.getfield 9, 3) := by decide +kernel
theorem dX6_has_4 : decode cX6_has 4 = .ok (.bipush 32, 2) := by decide +kernel
theorem dX6_has_6 : decode cX6_has 6 = .ok (.iload_n 1, 1) := by decide +kernel
theorem dX6_has_7 : decode cX6_has 7 = .ok (.iadd, 1) := by decide +kernel
theorem dX6_has_8 : decode cX6_has 8 = .ok (.iaload, 1) := by decide +kernel
theorem dX6_has_9 : decode cX6_has 9 = .ok (.iload_n 2, 1) := by decide +kernel
theorem dX6_has_10 : decode cX6_has 10 = .ok (.ishr, 1) := by decide +kernel
theorem dX6_has_11 : decode cX6_has 11 = .ok (.iconst 1, 1) := by decide +kernel
theorem dX6_has_12 : decode cX6_has 12 = .ok (.iand, 1) := by decide +kernel
theorem dX6_has_13 : decode cX6_has 13 = .ok (.iconst 1, 1) := by decide +kernel
theorem dX6_has_14 : decode cX6_has 14 = .ok (.if_icmp .ne 7, 3) := by decide +kernel
theorem dX6_has_17 : decode cX6_has 17 = .ok (.iconst 1, 1) := by decide +kernel
theorem dX6_has_18 : decode cX6_has 18 = .ok (.goto 4, 3) := by decide +kernel
theorem dX6_has_21 : decode cX6_has 21 = .ok (.iconst 0, 1) := by decide +kernel
theorem dX6_has_22 : decode cX6_has 22 = .ok (.ireturn, 1) := by decide +kernel
set_option maxRecDepth 20000 in
theorem ggX6_good_X6_isGood : GoodIn wsX6_good wsX6_isGood := goodIn_r _ [8, 9, 10, 7, 11] (by decide +kernel) (by decide +kernel)
set_option maxRecDepth 20000 in
theorem gX6_good_X6_isGood : GoodIn wsX6_good (va_wsS RX6 115 yX6_isGood wsX6_isGood) := goodIn_app (goodIn_of _ (by decide +kernel)) ggX6_good_X6_isGood
set_option maxRecDepth 20000 in
theorem ggX6_good_X6_finding : GoodIn wsX6_good wsX6_finding := goodIn_r _ [15, 16, 50, 51, 52, 53, 54, 55, 56, 57, 58, 59, 60, 61, 62, 63, 64, 65] (by decide +kernel) (by decide +kernel)
set_option maxRecDepth 20000 in
theorem gX6_good_X6_finding : GoodIn wsX6_good (wsV RX6 49 RX6 yX6_finding wsX6_finding) := goodIn_app (goodIn_of _ (by decide +kernel)) ggX6_good_X6_finding
set_option maxRecDepth 20000 in
theorem ggX6_good_X6_has : GoodIn wsX6_good wsX6_has := goodIn_r _ [20, 2, 50, 51, 52, 53, 54, 55, 56, 57, 58, 59, 60, 61, 62, 63, 64, 65] (by decide +kernel) (by decide +kernel)
set_option maxRecDepth 20000 in
theorem gX6_good_X6_has : GoodIn wsX6_good (wsV RX6 122 RX6 yX6_has wsX6_has) := goodIn_app (goodIn_of _ (by decide +kernel)) ggX6_good_X6_has
set_option maxRecDepth 20000 in
theorem ggX6_good_X6_noOrder : GoodIn wsX6_good wsX6_noOrder := goodIn_r _ [24, 2, 3, 25, 50, 51, 52, 53, 54, 55, 56, 57, 58, 59, 60, 61, 62, 63, 64, 65] (by decide +kernel) (by decide +kernel)
set_option maxRecDepth 20000 in
theorem gX6_good_X6_noOrder : GoodIn wsX6_good (wsV RX6 107 RX6 yX6_noOrder wsX6_noOrder) := goodIn_app (goodIn_of _ (by decide +kernel)) ggX6_good_X6_noOrder
set_option maxRecDepth 20000 in
theorem ggX6_good_X6_search : GoodIn wsX6_good wsX6_search := goodIn_r _ [29, 2, 30, 31, 32, 33, 34, 35, 36, 37, 7, 38, 39, 40, 41, 42, 43, 44, 45, 46, 47, 48, 49, 4, 50, 51, 52, 53, 54, 55, 56, 57, 58, 59, 60, 61, 62, 63, 64, 65] (by decide +kernel) (by decide +kernel)
set_option maxRecDepth 20000 in
theorem gX6_good_X6_search : GoodIn wsX6_good (wsV RX6 111 RX6 yX6_search wsX6_search) := goodIn_app (goodIn_of _ (by decide +kernel)) ggX6_good_X6_search
theorem dX6_good_0 : decode cX6_good 0 = .ok (.iload_n 1, 1) := by decide +kernel
theorem dX6_good_1 : decode cX6_good 1 = .ok (.invokestatic 115, 3) := by decide +kernel
theorem dX6_good_4 : decode cX6_good 4 = .ok (.ifCond .ne 10, 3) := by decide +kernel
theorem dX6_good_7 : decode cX6_good 7 = .ok (.aload_n 0, 1) := by decide +kernel
theorem dX6_good_8 : decode cX6_good 8 = .ok (.ldc 48, 2) := by decide +kernel
theorem dX6_good_10 : decode cX6_good 10 = .ok (.invokevirtual 49, 3) := by decide +kernel
theorem dX6_good_13 : decode cX6_good 13 = .ok (.ireturn, 1) := by decide +kernel
theorem dX6_good_14 : decode cX6_good 14 = .ok (.iconst 0, 1) := by decide +kernel
theorem dX6_good_15 : decode cX6_good 15 = .ok (.istore_n 3, 1) := by decide +kernel
theorem dX6_good_16 : decode cX6_good 16 = .ok (.iconst 0, 1) := by decide +kernel
theorem dX6_good_17 : decode cX6_good 17 = .ok (.istore 4, 2) := by decide +kernel
theorem dX6_good_19 : decode cX6_good 19 = .ok (.iload 4, 2) := by decide +kernel
theorem dX6_good_21 : decode cX6_good 21 = .ok (.aload_n 0, 1) := by decide +kernel
theorem dX6_good_22 : decode cX6_good 22 = .ok (.getfield 9, 3) := by decide +kernel
theorem dX6_good_25 : decode cX6_good 25 = .ok (.iconst 0, 1) := by decide +kernel
theorem dX6_good_26 : decode cX6_good 26 = .ok (.iaload, 1) := by decide +kernel
theorem dX6_good_27 : decode cX6_good 27 = .ok (.if_icmp .ge 29, 3) := by decide +kernel
theorem dX6_good_30 : decode cX6_good 30 = .ok (.iload_n 3, 1) := by decide +kernel
theorem dX6_good_31 : decode cX6_good 31 = .ok (.ifCond .ne 13, 3) := by decide +kernel
theorem dX6_good_34 : decode cX6_good 34 = .ok (.aload_n 0, 1) := by decide +kernel
theorem dX6_good_35 : decode cX6_good 35 = .ok (.iload 4, 2) := by decide +kernel
theorem dX6_good_37 : decode cX6_good 37 = .ok (.iload_n 1, 1) := by decide +kernel
theorem dX6_good_38 : decode cX6_good 38 = .ok (.invokevirtual 122, 3) := by decide +kernel
theorem dX6_good_41 : decode cX6_good 41 = .ok (.ifCond .eq 7, 3) := by decide +kernel
theorem dX6_good_44 : decode cX6_good 44 = .ok (.iconst 1, 1) := by decide +kernel
theorem dX6_good_45 : decode cX6_good 45 = .ok (.goto 4, 3) := by decide +kernel
theorem dX6_good_48 : decode cX6_good 48 = .ok (.iconst 0, 1) := by decide +kernel
theorem dX6_good_49 : decode cX6_good 49 = .ok (.istore_n 3, 1) := by decide +kernel
theorem dX6_good_50 : decode cX6_good 50 = .ok (.iinc 4 1, 3) := by decide +kernel
theorem dX6_good_53 : decode cX6_good 53 = .ok (.goto (-34), 3) := by decide +kernel
theorem dX6_good_56 : decode cX6_good 56 = .ok (.iload_n 3, 1) := by decide +kernel
theorem dX6_good_57 : decode cX6_good 57 = .ok (.ifCond .ne 10, 3) := by decide +kernel
theorem dX6_good_60 : decode cX6_good 60 = .ok (.aload_n 0, 1) := by decide +kernel
theorem dX6_good_61 : decode cX6_good 61 = .ok (.ldc 83, 2) := by decide +kernel
theorem dX6_good_63 : decode cX6_good 63 = .ok (.invokevirtual 49, 3) := by decide +kernel
theorem dX6_good_66 : decode cX6_good 66 = .ok (.ireturn, 1) := by decide +kernel
theorem dX6_good_67 : decode cX6_good 67 = .ok (.aload_n 0, 1) := by decide +kernel
theorem dX6_good_68 : decode cX6_good 68 = .ok (.invokevirtual 107, 3) := by decide +kernel
theorem dX6_good_71 : decode cX6_good 71 = .ok (.ifCond .eq 12, 3) := by decide +kernel
theorem dX6_good_74 : decode cX6_good 74 = .ok (.aload_n 0, 1) := by decide +kernel
theorem dX6_good_75 : decode cX6_good 75 = .ok (.aload_n 0, 1) := by decide +kernel
theorem dX6_good_76 : decode cX6_good 76 = .ok (.invokevirtual 107, 3) := by decide +kernel
theorem dX6_good_79 : decode cX6_good 79 = .ok (.invokevirtual 49, 3) := by decide +kernel
theorem dX6_good_82 : decode cX6_good 82 = .ok (.ireturn, 1) := by decide +kernel
theorem dX6_good_83 : decode cX6_good 83 = .ok (.aload_n 0, 1) := by decide +kernel
theorem dX6_good_84 : decode cX6_good 84 = .ok (.sipush 4095, 3) := by decide +kernel
theorem dX6_good_87 : decode cX6_good 87 = .ok (.invokevirtual 111, 3) := by decide +kernel
theorem dX6_good_90 : decode cX6_good 90 = .ok (.iconst (-1), 1) := by decide +kernel
theorem dX6_good_91 : decode cX6_good 91 = .ok (.istore 4, 2) := by decide +kernel
theorem dX6_good_93 : decode cX6_good 93 = .ok (.iconst 0, 1) := by decide +kernel
theorem dX6_good_94 : decode cX6_good 94 = .ok (.istore 5, 2) := by decide +kernel
theorem dX6_good_96 : decode cX6_good 96 = .ok (.iload 5, 2) := by decide +kernel
theorem dX6_good_98 : decode cX6_good 98 = .ok (.aload_n 0, 1) := by decide +kernel
theorem dX6_good_99 : decode cX6_good 99 = .ok (.getfield 9, 3) := by decide +kernel
theorem dX6_good_102 : decode cX6_good 102 = .ok (.iconst 0, 1) := by decide +kernel
theorem dX6_good_103 : decode cX6_good 103 = .ok (.iaload, 1) := by decide +kernel
theorem dX6_good_104 : decode cX6_good 104 = .ok (.if_icmp .ge 42, 3) := by decide +kernel
theorem dX6_good_107 : decode cX6_good 107 = .ok (.aload_n 0, 1) := by decide +kernel
theorem dX6_good_108 : decode cX6_good 108 = .ok (.aload_n 0, 1) := by decide +kernel
theorem dX6_good_109 : decode cX6_good 109 = .ok (.getfield 28, 3) := by decide +kernel
theorem dX6_good_112 : decode cX6_good 112 = .ok (.iload 5, 2) := by decide +kernel
theorem dX6_good_114 : decode cX6_good 114 = .ok (.iaload, 1) := by decide +kernel
theorem dX6_good_115 : decode cX6_good 115 = .ok (.iload_n 1, 1) := by decide +kernel
theorem dX6_good_116 : decode cX6_good 116 = .ok (.invokevirtual 122, 3) := by decide +kernel
theorem dX6_good_119 : decode cX6_good 119 = .ok (.ifCond .eq 17, 3) := by decide +kernel
theorem dX6_good_122 : decode cX6_good 122 = .ok (.iload_n 2, 1) := by decide +kernel
theorem dX6_good_123 : decode cX6_good 123 = .ok (.ifCond .ne 8, 3) := by decide +kernel
theorem dX6_good_126 : decode cX6_good 126 = .ok (.iload 4, 2) := by decide +kernel
theorem dX6_good_128 : decode cX6_good 128 = .ok (.ifCond .ge 8, 3) := by decide +kernel
theorem dX6_good_131 : decode cX6_good 131 = .ok (.iload 5, 2) := by decide +kernel
theorem dX6_good_133 : decode cX6_good 133 = .ok (.goto 5, 3) := by decide +kernel
theorem dX6_good_136 : decode cX6_good 136 = .ok (.iload 4, 2) := by decide +kernel
theorem dX6_good_138 : decode cX6_good 138 = .ok (.istore 4, 2) := by decide +kernel
theorem dX6_good_140 : decode cX6_good 140 = .ok (.iinc 5 1, 3) := by decide +kernel
theorem dX6_good_143 : decode cX6_good 143 = .ok (.goto (-47), 3) := by decide +kernel
theorem dX6_good_146 : decode cX6_good 146 = .ok (.iload 4, 2) := by decide +kernel
theorem dX6_good_148 : decode cX6_good 148 = .ok (.ireturn, 1) := by decide +kernel
set_option maxRecDepth 20000 in
theorem ggX6_tell_X6_finding : GoodIn wsX6_tell wsX6_finding := goodIn_r _ [7, 8, 9, 10, 11, 12, 13, 14, 15, 16, 17, 18, 19, 20, 21, 22, 23, 24] (by decide +kernel) (by decide +kernel)
set_option maxRecDepth 20000 in
theorem gX6_tell_X6_finding : GoodIn wsX6_tell (wsV RX6 49 RX6 yX6_finding wsX6_finding) := goodIn_app (goodIn_of _ (by decide +kernel)) ggX6_tell_X6_finding
theorem dX6_tell_0 : decode cX6_tell 0 = .ok (.aload_n 0, 1) := by decide +kernel
theorem dX6_tell_1 : decode cX6_tell 1 = .ok (.getfield 9, 3) := by decide +kernel
theorem dX6_tell_4 : decode cX6_tell 4 = .ok (.iconst 1, 1) := by decide +kernel
theorem dX6_tell_5 : decode cX6_tell 5 = .ok (.iaload, 1) := by decide +kernel
theorem dX6_tell_6 : decode cX6_tell 6 = .ok (.bipush 12, 2) := by decide +kernel
theorem dX6_tell_8 : decode cX6_tell 8 = .ok (.if_icmp .ne 10, 3) := by decide +kernel
theorem dX6_tell_11 : decode cX6_tell 11 = .ok (.aload_n 0, 1) := by decide +kernel
theorem dX6_tell_12 : decode cX6_tell 12 = .ok (.ldc 53, 2) := by decide +kernel
theorem dX6_tell_14 : decode cX6_tell 14 = .ok (.invokevirtual 49, 3) := by decide +kernel
theorem dX6_tell_17 : decode cX6_tell 17 = .ok (.ireturn, 1) := by decide +kernel
theorem dX6_tell_18 : decode cX6_tell 18 = .ok (.aload_n 0, 1) := by decide +kernel
theorem dX6_tell_19 : decode cX6_tell 19 = .ok (.getfield 9, 3) := by decide +kernel
theorem dX6_tell_22 : decode cX6_tell 22 = .ok (.bipush 104, 2) := by decide +kernel
theorem dX6_tell_24 : decode cX6_tell 24 = .ok (.aload_n 0, 1) := by decide +kernel
theorem dX6_tell_25 : decode cX6_tell 25 = .ok (.getfield 9, 3) := by decide +kernel
theorem dX6_tell_28 : decode cX6_tell 28 = .ok (.iconst 1, 1) := by decide +kernel
theorem dX6_tell_29 : decode cX6_tell 29 = .ok (.iaload, 1) := by decide +kernel
theorem dX6_tell_30 : decode cX6_tell 30 = .ok (.iadd, 1) := by decide +kernel
theorem dX6_tell_31 : decode cX6_tell 31 = .ok (.iload_n 1, 1) := by decide +kernel
theorem dX6_tell_32 : decode cX6_tell 32 = .ok (.iastore, 1) := by decide +kernel
theorem dX6_tell_33 : decode cX6_tell 33 = .ok (.aload_n 0, 1) := by decide +kernel
theorem dX6_tell_34 : decode cX6_tell 34 = .ok (.getfield 9, 3) := by decide +kernel
theorem dX6_tell_37 : decode cX6_tell 37 = .ok (.iconst 1, 1) := by decide +kernel
theorem dX6_tell_38 : decode cX6_tell 38 = .ok (.dup2, 1) := by decide +kernel
theorem dX6_tell_39 : decode cX6_tell 39 = .ok (.iaload, 1) := by decide +kernel
theorem dX6_tell_40 : decode cX6_tell 40 = .ok (.iconst 1, 1) := by decide +kernel
theorem dX6_tell_41 : decode cX6_tell 41 = .ok (.iadd, 1) := by decide +kernel
theorem dX6_tell_42 : decode cX6_tell 42 = .ok (.iastore, 1) := by decide +kernel
theorem dX6_tell_43 : decode cX6_tell 43 = .ok (.aload_n 0, 1) := by decide +kernel
theorem dX6_tell_44 : decode cX6_tell 44 = .ok (.getfield 9, 3) := by decide +kernel
theorem dX6_tell_47 : decode cX6_tell 47 = .ok (.iconst 1, 1) := by decide +kernel
theorem dX6_tell_48 : decode cX6_tell 48 = .ok (.iaload, 1) := by decide +kernel
theorem dX6_tell_49 : decode cX6_tell 49 = .ok (.ireturn, 1) := by decide +kernel
set_option maxRecDepth 20000 in
theorem ggX6_check_X6_finding : GoodIn wsX6_check wsX6_finding := goodIn_r _ [8, 9, 36, 37, 38, 39, 40, 41, 42, 43, 44, 45, 46, 47, 48, 49, 50, 51] (by decide +kernel) (by decide +kernel)
set_option maxRecDepth 20000 in
theorem gX6_check_X6_finding : GoodIn wsX6_check (wsV RX6 49 RX6 yX6_finding wsX6_finding) := goodIn_app (goodIn_of _ (by decide +kernel)) ggX6_check_X6_finding
set_option maxRecDepth 20000 in
theorem ggX6_check_X6_isGrave : GoodIn wsX6_check wsX6_isGrave := goodIn_r _ [13, 1, 14, 15, 7, 16, 36, 37, 38, 39, 40, 41, 42, 43, 44, 45, 46, 47, 48, 49, 50, 51] (by decide +kernel) (by decide +kernel)
set_option maxRecDepth 20000 in
theorem gX6_check_X6_isGrave : GoodIn wsX6_check (wsV RX6 54 RX6 yX6_isGrave wsX6_isGrave) := goodIn_app (goodIn_of _ (by decide +kernel)) ggX6_check_X6_isGrave
set_option maxRecDepth 20000 in
theorem ggX6_check_X6_below : GoodIn wsX6_check wsX6_below := goodIn_r _ [20, 1, 36, 37, 38, 39, 40, 41, 42, 43, 44, 45, 46, 47, 48, 49, 50, 51] (by decide +kernel) (by decide +kernel)
set_option maxRecDepth 20000 in
theorem gX6_check_X6_below : GoodIn wsX6_check (wsV RX6 79 RX6 yX6_below wsX6_below) := goodIn_app (goodIn_of _ (by decide +kernel)) ggX6_check_X6_below
set_option maxRecDepth 20000 in
theorem ggX6_check_X6_holesIn : GoodIn wsX6_check wsX6_holesIn := goodIn_r _ [24, 1, 25, 26, 27, 7, 28, 29, 30, 31, 32, 33, 34, 35, 36, 37, 38, 39, 40, 41, 42, 43, 44, 45, 46, 47, 48, 49, 50, 51] (by decide +kernel) (by decide +kernel)
set_option maxRecDepth 20000 in
theorem gX6_check_X6_holesIn : GoodIn wsX6_check (wsV RX6 118 RX6 yX6_holesIn wsX6_holesIn) := goodIn_app (goodIn_of _ (by decide +kernel)) ggX6_check_X6_holesIn
theorem dX6_check_0 : decode cX6_check 0 = .ok (.aload_n 0, 1) := by decide +kernel
theorem dX6_check_1 : decode cX6_check 1 = .ok (.getfield 9, 3) := by decide +kernel
theorem dX6_check_4 : decode cX6_check 4 = .ok (.iconst 1, 1) := by decide +kernel
theorem dX6_check_5 : decode cX6_check 5 = .ok (.iaload, 1) := by decide +kernel
theorem dX6_check_6 : decode cX6_check 6 = .ok (.istore_n 1, 1) := by decide +kernel
theorem dX6_check_7 : decode cX6_check 7 = .ok (.aload_n 0, 1) := by decide +kernel
theorem dX6_check_8 : decode cX6_check 8 = .ok (.getfield 9, 3) := by decide +kernel
theorem dX6_check_11 : decode cX6_check 11 = .ok (.iconst 1, 1) := by decide +kernel
theorem dX6_check_12 : decode cX6_check 12 = .ok (.iconst 0, 1) := by decide +kernel
theorem dX6_check_13 : decode cX6_check 13 = .ok (.iastore, 1) := by decide +kernel
theorem dX6_check_14 : decode cX6_check 14 = .ok (.aload_n 0, 1) := by decide +kernel
theorem dX6_check_15 : decode cX6_check 15 = .ok (.getfield 9, 3) := by decide +kernel
theorem dX6_check_18 : decode cX6_check 18 = .ok (.iconst 0, 1) := by decide +kernel
theorem dX6_check_19 : decode cX6_check 19 = .ok (.iaload, 1) := by decide +kernel
theorem dX6_check_20 : decode cX6_check 20 = .ok (.ifCond .ne 10, 3) := by decide +kernel
theorem dX6_check_23 : decode cX6_check 23 = .ok (.aload_n 0, 1) := by decide +kernel
theorem dX6_check_24 : decode cX6_check 24 = .ok (.ldc 83, 2) := by decide +kernel
theorem dX6_check_26 : decode cX6_check 26 = .ok (.invokevirtual 49, 3) := by decide +kernel
theorem dX6_check_29 : decode cX6_check 29 = .ok (.ireturn, 1) := by decide +kernel
theorem dX6_check_30 : decode cX6_check 30 = .ok (.iconst 0, 1) := by decide +kernel
theorem dX6_check_31 : decode cX6_check 31 = .ok (.istore_n 2, 1) := by decide +kernel
theorem dX6_check_32 : decode cX6_check 32 = .ok (.iconst 0, 1) := by decide +kernel
theorem dX6_check_33 : decode cX6_check 33 = .ok (.istore_n 3, 1) := by decide +kernel
theorem dX6_check_34 : decode cX6_check 34 = .ok (.iload_n 3, 1) := by decide +kernel
theorem dX6_check_35 : decode cX6_check 35 = .ok (.aload_n 0, 1) := by decide +kernel
theorem dX6_check_36 : decode cX6_check 36 = .ok (.getfield 9, 3) := by decide +kernel
theorem dX6_check_39 : decode cX6_check 39 = .ok (.iconst 0, 1) := by decide +kernel
theorem dX6_check_40 : decode cX6_check 40 = .ok (.iaload, 1) := by decide +kernel
theorem dX6_check_41 : decode cX6_check 41 = .ok (.if_icmp .ge 80, 3) := by decide +kernel
theorem dX6_check_44 : decode cX6_check 44 = .ok (.iload_n 3, 1) := by decide +kernel
theorem dX6_check_45 : decode cX6_check 45 = .ok (.iload_n 1, 1) := by decide +kernel
theorem dX6_check_46 : decode cX6_check 46 = .ok (.if_icmp .ge 15, 3) := by decide +kernel
theorem dX6_check_49 : decode cX6_check 49 = .ok (.aload_n 0, 1) := by decide +kernel
theorem dX6_check_50 : decode cX6_check 50 = .ok (.getfield 9, 3) := by decide +kernel
theorem dX6_check_53 : decode cX6_check 53 = .ok (.bipush 104, 2) := by decide +kernel
theorem dX6_check_55 : decode cX6_check 55 = .ok (.iload_n 3, 1) := by decide +kernel
theorem dX6_check_56 : decode cX6_check 56 = .ok (.iadd, 1) := by decide +kernel
theorem dX6_check_57 : decode cX6_check 57 = .ok (.iaload, 1) := by decide +kernel
theorem dX6_check_58 : decode cX6_check 58 = .ok (.goto 4, 3) := by decide +kernel
theorem dX6_check_61 : decode cX6_check 61 = .ok (.iconst (-1), 1) := by decide +kernel
theorem dX6_check_62 : decode cX6_check 62 = .ok (.istore 4, 2) := by decide +kernel
theorem dX6_check_64 : decode cX6_check 64 = .ok (.aload_n 0, 1) := by decide +kernel
theorem dX6_check_65 : decode cX6_check 65 = .ok (.iload 4, 2) := by decide +kernel
theorem dX6_check_67 : decode cX6_check 67 = .ok (.invokevirtual 54, 3) := by decide +kernel
theorem dX6_check_70 : decode cX6_check 70 = .ok (.ifCond .eq 26, 3) := by decide +kernel
theorem dX6_check_73 : decode cX6_check 73 = .ok (.iload_n 2, 1) := by decide +kernel
theorem dX6_check_74 : decode cX6_check 74 = .ok (.iload 4, 2) := by decide +kernel
theorem dX6_check_76 : decode cX6_check 76 = .ok (.ishr, 1) := by decide +kernel
theorem dX6_check_77 : decode cX6_check 77 = .ok (.iconst 1, 1) := by decide +kernel
theorem dX6_check_78 : decode cX6_check 78 = .ok (.iand, 1) := by decide +kernel
theorem dX6_check_79 : decode cX6_check 79 = .ok (.iconst 1, 1) := by decide +kernel
theorem dX6_check_80 : decode cX6_check 80 = .ok (.if_icmp .eq 16, 3) := by decide +kernel
theorem dX6_check_83 : decode cX6_check 83 = .ok (.aload_n 0, 1) := by decide +kernel
theorem dX6_check_84 : decode cX6_check 84 = .ok (.iload 4, 2) := by decide +kernel
theorem dX6_check_86 : decode cX6_check 86 = .ok (.invokevirtual 79, 3) := by decide +kernel
theorem dX6_check_89 : decode cX6_check 89 = .ok (.iload_n 2, 1) := by decide +kernel
theorem dX6_check_90 : decode cX6_check 90 = .ok (.iconst (-1), 1) := by decide +kernel
theorem dX6_check_91 : decode cX6_check 91 = .ok (.ixor, 1) := by decide +kernel
theorem dX6_check_92 : decode cX6_check 92 = .ok (.iand, 1) := by decide +kernel
theorem dX6_check_93 : decode cX6_check 93 = .ok (.ifCond .eq 7, 3) := by decide +kernel
theorem dX6_check_96 : decode cX6_check 96 = .ok (.iconst (-1), 1) := by decide +kernel
theorem dX6_check_97 : decode cX6_check 97 = .ok (.iload_n 3, 1) := by decide +kernel
theorem dX6_check_98 : decode cX6_check 98 = .ok (.isub, 1) := by decide +kernel
theorem dX6_check_99 : decode cX6_check 99 = .ok (.ireturn, 1) := by decide +kernel
theorem dX6_check_100 : decode cX6_check 100 = .ok (.aload_n 0, 1) := by decide +kernel
theorem dX6_check_101 : decode cX6_check 101 = .ok (.getfield 31, 3) := by decide +kernel
theorem dX6_check_104 : decode cX6_check 104 = .ok (.iload_n 3, 1) := by decide +kernel
theorem dX6_check_105 : decode cX6_check 105 = .ok (.iload 4, 2) := by decide +kernel
theorem dX6_check_107 : decode cX6_check 107 = .ok (.iastore, 1) := by decide +kernel
theorem dX6_check_108 : decode cX6_check 108 = .ok (.iload_n 2, 1) := by decide +kernel
theorem dX6_check_109 : decode cX6_check 109 = .ok (.iconst 1, 1) := by decide +kernel
theorem dX6_check_110 : decode cX6_check 110 = .ok (.iload 4, 2) := by decide +kernel
theorem dX6_check_112 : decode cX6_check 112 = .ok (.ishl, 1) := by decide +kernel
theorem dX6_check_113 : decode cX6_check 113 = .ok (.ior, 1) := by decide +kernel
theorem dX6_check_114 : decode cX6_check 114 = .ok (.istore_n 2, 1) := by decide +kernel
theorem dX6_check_115 : decode cX6_check 115 = .ok (.iinc 3 1, 3) := by decide +kernel
theorem dX6_check_118 : decode cX6_check 118 = .ok (.goto (-84), 3) := by decide +kernel
theorem dX6_check_121 : decode cX6_check 121 = .ok (.iload_n 1, 1) := by decide +kernel
theorem dX6_check_122 : decode cX6_check 122 = .ok (.aload_n 0, 1) := by decide +kernel
theorem dX6_check_123 : decode cX6_check 123 = .ok (.getfield 9, 3) := by decide +kernel
theorem dX6_check_126 : decode cX6_check 126 = .ok (.iconst 0, 1) := by decide +kernel
theorem dX6_check_127 : decode cX6_check 127 = .ok (.iaload, 1) := by decide +kernel
theorem dX6_check_128 : decode cX6_check 128 = .ok (.if_icmp .le 8, 3) := by decide +kernel
theorem dX6_check_131 : decode cX6_check 131 = .ok (.bipush (-12), 2) := by decide +kernel
theorem dX6_check_133 : decode cX6_check 133 = .ok (.goto 14, 3) := by decide +kernel
theorem dX6_check_136 : decode cX6_check 136 = .ok (.aload_n 0, 1) := by decide +kernel
theorem dX6_check_137 : decode cX6_check 137 = .ok (.aload_n 0, 1) := by decide +kernel
theorem dX6_check_138 : decode cX6_check 138 = .ok (.getfield 31, 3) := by decide +kernel
theorem dX6_check_141 : decode cX6_check 141 = .ok (.sipush 4095, 3) := by decide +kernel
theorem dX6_check_144 : decode cX6_check 144 = .ok (.invokevirtual 118, 3) := by decide +kernel
theorem dX6_check_147 : decode cX6_check 147 = .ok (.ireturn, 1) := by decide +kernel
set_option maxRecDepth 20000 in
theorem ggX6_without_X6_isGood : GoodIn wsX6_without wsX6_isGood := goodIn_r _ [6, 7, 8, 5, 9] (by decide +kernel) (by decide +kernel)
set_option maxRecDepth 20000 in
theorem gX6_without_X6_isGood : GoodIn wsX6_without (va_wsS RX6 115 yX6_isGood wsX6_isGood) := goodIn_app (goodIn_of _ (by decide +kernel)) ggX6_without_X6_isGood
set_option maxRecDepth 20000 in
theorem ggX6_without_X6_finding : GoodIn wsX6_without wsX6_finding := goodIn_r _ [13, 14, 46, 47, 48, 49, 50, 51, 52, 53, 54, 55, 56, 57, 58, 59, 60, 61] (by decide +kernel) (by decide +kernel)
set_option maxRecDepth 20000 in
theorem gX6_without_X6_finding : GoodIn wsX6_without (wsV RX6 49 RX6 yX6_finding wsX6_finding) := goodIn_app (goodIn_of _ (by decide +kernel)) ggX6_without_X6_finding
set_option maxRecDepth 20000 in
theorem ggX6_without_X6_noOrder : GoodIn wsX6_without wsX6_noOrder := goodIn_r _ [18, 19, 20, 21, 46, 47, 48, 49, 50, 51, 52, 53, 54, 55, 56, 57, 58, 59, 60, 61] (by decide +kernel) (by decide +kernel)
set_option maxRecDepth 20000 in
theorem gX6_without_X6_noOrder : GoodIn wsX6_without (wsV RX6 107 RX6 yX6_noOrder wsX6_noOrder) := goodIn_app (goodIn_of _ (by decide +kernel)) ggX6_without_X6_noOrder
set_option maxRecDepth 20000 in
theorem ggX6_without_X6_search : GoodIn wsX6_without wsX6_search := goodIn_r _ [25, 19, 2, 26, 27, 28, 29, 30, 31, 32, 5, 33, 34, 35, 36, 37, 38, 39, 40, 41, 42, 43, 44, 45, 46, 47, 48, 49, 50, 51, 52, 53, 54, 55, 56, 57, 58, 59, 60, 61] (by decide +kernel) (by decide +kernel)
set_option maxRecDepth 20000 in
theorem gX6_without_X6_search : GoodIn wsX6_without (wsV RX6 111 RX6 yX6_search wsX6_search) := goodIn_app (goodIn_of _ (by decide +kernel)) ggX6_without_X6_search
theorem dX6_without_0 : decode cX6_without 0 = .ok (.iload_n 1, 1) := by decide +kernel
theorem dX6_without_1 : decode cX6_without 1 = .ok (.invokestatic 115, 3) := by decide +kernel
theorem dX6_without_4 : decode cX6_without 4 = .ok (.ifCond .ne 10, 3) := by decide +kernel
theorem dX6_without_7 : decode cX6_without 7 = .ok (.aload_n 0, 1) := by decide +kernel
theorem dX6_without_8 : decode cX6_without 8 = .ok (.ldc 48, 2) := by decide +kernel
theorem dX6_without_10 : decode cX6_without 10 = .ok (.invokevirtual 49, 3) := by decide +kernel
theorem dX6_without_13 : decode cX6_without 13 = .ok (.ireturn, 1) := by decide +kernel
theorem dX6_without_14 : decode cX6_without 14 = .ok (.aload_n 0, 1) := by decide +kernel
theorem dX6_without_15 : decode cX6_without 15 = .ok (.invokevirtual 107, 3) := by decide +kernel
theorem dX6_without_18 : decode cX6_without 18 = .ok (.ifCond .eq 12, 3) := by decide +kernel
theorem dX6_without_21 : decode cX6_without 21 = .ok (.aload_n 0, 1) := by decide +kernel
theorem dX6_without_22 : decode cX6_without 22 = .ok (.aload_n 0, 1) := by decide +kernel
theorem dX6_without_23 : decode cX6_without 23 = .ok (.invokevirtual 107, 3) := by decide +kernel
theorem dX6_without_26 : decode cX6_without 26 = .ok (.invokevirtual 49, 3) := by decide +kernel
theorem dX6_without_29 : decode cX6_without 29 = .ok (.ireturn, 1) := by decide +kernel
theorem dX6_without_30 : decode cX6_without 30 = .ok (.aload_n 0, 1) := by decide +kernel
theorem dX6_without_31 : decode cX6_without 31 = .ok (.sipush 4095, 3) := by decide +kernel
theorem dX6_without_34 : decode cX6_without 34 = .ok (.iconst 1, 1) := by decide +kernel
theorem dX6_without_35 : decode cX6_without 35 = .ok (.iload_n 1, 1) := by decide +kernel
theorem dX6_without_36 : decode cX6_without 36 = .ok (.ishl, 1) := by decide +kernel
theorem dX6_without_37 : decode cX6_without 37 = .ok (.iconst (-1), 1) := by decide +kernel
theorem dX6_without_38 : decode cX6_without 38 = .ok (.ixor, 1) := by decide +kernel
theorem dX6_without_39 : decode cX6_without 39 = .ok (.iand, 1) := by decide +kernel
theorem dX6_without_40 : decode cX6_without 40 = .ok (.invokevirtual 111, 3) := by decide +kernel
theorem dX6_without_43 : decode cX6_without 43 = .ok (.aload_n 0, 1) := by decide +kernel
theorem dX6_without_44 : decode cX6_without 44 = .ok (.getfield 92, 3) := by decide +kernel
theorem dX6_without_47 : decode cX6_without 47 = .ok (.ireturn, 1) := by decide +kernel
set_option maxRecDepth 20000 in
theorem ggX6_ways_X6_noOrder : GoodIn wsX6_ways wsX6_noOrder := goodIn_r _ [6, 7, 8, 9, 39, 40, 41, 42, 43, 44, 45, 46, 47, 48, 49, 50, 51, 52, 53, 54] (by decide +kernel) (by decide +kernel)
set_option maxRecDepth 20000 in
theorem gX6_ways_X6_noOrder : GoodIn wsX6_ways (wsV RX6 107 RX6 yX6_noOrder wsX6_noOrder) := goodIn_app (goodIn_of _ (by decide +kernel)) ggX6_ways_X6_noOrder
set_option maxRecDepth 20000 in
theorem ggX6_ways_X6_finding : GoodIn wsX6_ways wsX6_finding := goodIn_r _ [13, 14, 39, 40, 41, 42, 43, 44, 45, 46, 47, 48, 49, 50, 51, 52, 53, 54] (by decide +kernel) (by decide +kernel)
set_option maxRecDepth 20000 in
theorem gX6_ways_X6_finding : GoodIn wsX6_ways (wsV RX6 49 RX6 yX6_finding wsX6_finding) := goodIn_app (goodIn_of _ (by decide +kernel)) ggX6_ways_X6_finding
set_option maxRecDepth 20000 in
theorem ggX6_ways_X6_search : GoodIn wsX6_ways wsX6_search := goodIn_r _ [18, 7, 19, 1, 20, 21, 22, 23, 24, 25, 5, 26, 27, 28, 29, 30, 31, 32, 33, 34, 35, 36, 37, 38, 39, 40, 41, 42, 43, 44, 45, 46, 47, 48, 49, 50, 51, 52, 53, 54] (by decide +kernel) (by decide +kernel)
set_option maxRecDepth 20000 in
theorem gX6_ways_X6_search : GoodIn wsX6_ways (wsV RX6 111 RX6 yX6_search wsX6_search) := goodIn_app (goodIn_of _ (by decide +kernel)) ggX6_ways_X6_search
theorem dX6_ways_0 : decode cX6_ways 0 = .ok (.aload_n 0, 1) := by decide +kernel
theorem dX6_ways_1 : decode cX6_ways 1 = .ok (.invokevirtual 107, 3) := by decide +kernel
theorem dX6_ways_4 : decode cX6_ways 4 = .ok (.ifCond .eq 12, 3) := by decide +kernel
theorem dX6_ways_7 : decode cX6_ways 7 = .ok (.aload_n 0, 1) := by decide +kernel
theorem dX6_ways_8 : decode cX6_ways 8 = .ok (.aload_n 0, 1) := by decide +kernel
theorem dX6_ways_9 : decode cX6_ways 9 = .ok (.invokevirtual 107, 3) := by decide +kernel
theorem dX6_ways_12 : decode cX6_ways 12 = .ok (.invokevirtual 49, 3) := by decide +kernel
theorem dX6_ways_15 : decode cX6_ways 15 = .ok (.ireturn, 1) := by decide +kernel
theorem dX6_ways_16 : decode cX6_ways 16 = .ok (.aload_n 0, 1) := by decide +kernel
theorem dX6_ways_17 : decode cX6_ways 17 = .ok (.sipush 4095, 3) := by decide +kernel
theorem dX6_ways_20 : decode cX6_ways 20 = .ok (.invokevirtual 111, 3) := by decide +kernel
theorem dX6_ways_23 : decode cX6_ways 23 = .ok (.aload_n 0, 1) := by decide +kernel
theorem dX6_ways_24 : decode cX6_ways 24 = .ok (.getfield 95, 3) := by decide +kernel
theorem dX6_ways_27 : decode cX6_ways 27 = .ok (.ireturn, 1) := by decide +kernel
set_option maxRecDepth 20000 in
theorem ggX6_goesOn_X6_many : GoodIn wsX6_goesOn wsX6_many := goodIn_r _ [6] (by decide +kernel) (by decide +kernel)
set_option maxRecDepth 20000 in
theorem gX6_goesOn_X6_many : GoodIn wsX6_goesOn (va_wsS RX6 63 yX6_many wsX6_many) := goodIn_app (goodIn_of _ (by decide +kernel)) ggX6_goesOn_X6_many
theorem dX6_goesOn_0 : decode cX6_goesOn 0 = .ok (.iconst 0, 1) := by decide +kernel
theorem dX6_goesOn_1 : decode cX6_goesOn 1 = .ok (.istore_n 2, 1) := by decide +kernel
theorem dX6_goesOn_2 : decode cX6_goesOn 2 = .ok (.iconst 0, 1) := by decide +kernel
theorem dX6_goesOn_3 : decode cX6_goesOn 3 = .ok (.istore_n 3, 1) := by decide +kernel
theorem dX6_goesOn_4 : decode cX6_goesOn 4 = .ok (.iconst 0, 1) := by decide +kernel
theorem dX6_goesOn_5 : decode cX6_goesOn 5 = .ok (.istore 4, 2) := by decide +kernel
theorem dX6_goesOn_7 : decode cX6_goesOn 7 = .ok (.iload 4, 2) := by decide +kernel
theorem dX6_goesOn_9 : decode cX6_goesOn 9 = .ok (.aload_n 0, 1) := by decide +kernel
theorem dX6_goesOn_10 : decode cX6_goesOn 10 = .ok (.getfield 9, 3) := by decide +kernel
theorem dX6_goesOn_13 : decode cX6_goesOn 13 = .ok (.iconst 0, 1) := by decide +kernel
theorem dX6_goesOn_14 : decode cX6_goesOn 14 = .ok (.iaload, 1) := by decide +kernel
theorem dX6_goesOn_15 : decode cX6_goesOn 15 = .ok (.if_icmp .ge 65, 3) := by decide +kernel
theorem dX6_goesOn_18 : decode cX6_goesOn 18 = .ok (.iload_n 2, 1) := by decide +kernel
theorem dX6_goesOn_19 : decode cX6_goesOn 19 = .ok (.iload 4, 2) := by decide +kernel
theorem dX6_goesOn_21 : decode cX6_goesOn 21 = .ok (.iload_n 1, 1) := by decide +kernel
theorem dX6_goesOn_22 : decode cX6_goesOn 22 = .ok (.if_icmp .ge 21, 3) := by decide +kernel
theorem dX6_goesOn_25 : decode cX6_goesOn 25 = .ok (.aload_n 0, 1) := by decide +kernel
theorem dX6_goesOn_26 : decode cX6_goesOn 26 = .ok (.getfield 9, 3) := by decide +kernel
theorem dX6_goesOn_29 : decode cX6_goesOn 29 = .ok (.bipush 32, 2) := by decide +kernel
theorem dX6_goesOn_31 : decode cX6_goesOn 31 = .ok (.aload_n 0, 1) := by decide +kernel
theorem dX6_goesOn_32 : decode cX6_goesOn 32 = .ok (.getfield 28, 3) := by decide +kernel
theorem dX6_goesOn_35 : decode cX6_goesOn 35 = .ok (.iload 4, 2) := by decide +kernel
theorem dX6_goesOn_37 : decode cX6_goesOn 37 = .ok (.iaload, 1) := by decide +kernel
theorem dX6_goesOn_38 : decode cX6_goesOn 38 = .ok (.iadd, 1) := by decide +kernel
theorem dX6_goesOn_39 : decode cX6_goesOn 39 = .ok (.iaload, 1) := by decide +kernel
theorem dX6_goesOn_40 : decode cX6_goesOn 40 = .ok (.goto 4, 3) := by decide +kernel
theorem dX6_goesOn_43 : decode cX6_goesOn 43 = .ok (.iconst 0, 1) := by decide +kernel
theorem dX6_goesOn_44 : decode cX6_goesOn 44 = .ok (.ior, 1) := by decide +kernel
theorem dX6_goesOn_45 : decode cX6_goesOn 45 = .ok (.istore_n 2, 1) := by decide +kernel
theorem dX6_goesOn_46 : decode cX6_goesOn 46 = .ok (.iload_n 3, 1) := by decide +kernel
theorem dX6_goesOn_47 : decode cX6_goesOn 47 = .ok (.iload 4, 2) := by decide +kernel
theorem dX6_goesOn_49 : decode cX6_goesOn 49 = .ok (.iload_n 1, 1) := by decide +kernel
theorem dX6_goesOn_50 : decode cX6_goesOn 50 = .ok (.if_icmp .ge 7, 3) := by decide +kernel
theorem dX6_goesOn_53 : decode cX6_goesOn 53 = .ok (.iconst 0, 1) := by decide +kernel
theorem dX6_goesOn_54 : decode cX6_goesOn 54 = .ok (.goto 18, 3) := by decide +kernel
theorem dX6_goesOn_57 : decode cX6_goesOn 57 = .ok (.aload_n 0, 1) := by decide +kernel
theorem dX6_goesOn_58 : decode cX6_goesOn 58 = .ok (.getfield 9, 3) := by decide +kernel
theorem dX6_goesOn_61 : decode cX6_goesOn 61 = .ok (.bipush 32, 2) := by decide +kernel
theorem dX6_goesOn_63 : decode cX6_goesOn 63 = .ok (.aload_n 0, 1) := by decide +kernel
theorem dX6_goesOn_64 : decode cX6_goesOn 64 = .ok (.getfield 28, 3) := by decide +kernel
theorem dX6_goesOn_67 : decode cX6_goesOn 67 = .ok (.iload 4, 2) := by decide +kernel
theorem dX6_goesOn_69 : decode cX6_goesOn 69 = .ok (.iaload, 1) := by decide +kernel
theorem dX6_goesOn_70 : decode cX6_goesOn 70 = .ok (.iadd, 1) := by decide +kernel
theorem dX6_goesOn_71 : decode cX6_goesOn 71 = .ok (.iaload, 1) := by decide +kernel
theorem dX6_goesOn_72 : decode cX6_goesOn 72 = .ok (.ior, 1) := by decide +kernel
theorem dX6_goesOn_73 : decode cX6_goesOn 73 = .ok (.istore_n 3, 1) := by decide +kernel
theorem dX6_goesOn_74 : decode cX6_goesOn 74 = .ok (.iinc 4 1, 3) := by decide +kernel
theorem dX6_goesOn_77 : decode cX6_goesOn 77 = .ok (.goto (-70), 3) := by decide +kernel
theorem dX6_goesOn_80 : decode cX6_goesOn 80 = .ok (.iload_n 2, 1) := by decide +kernel
theorem dX6_goesOn_81 : decode cX6_goesOn 81 = .ok (.iload_n 3, 1) := by decide +kernel
theorem dX6_goesOn_82 : decode cX6_goesOn 82 = .ok (.iand, 1) := by decide +kernel
theorem dX6_goesOn_83 : decode cX6_goesOn 83 = .ok (.invokestatic 63, 3) := by decide +kernel
theorem dX6_goesOn_86 : decode cX6_goesOn 86 = .ok (.ireturn, 1) := by decide +kernel
set_option maxRecDepth 20000 in
theorem ggX6_part_X6_many : GoodIn wsX6_part wsX6_many := goodIn_r _ [7] (by decide +kernel) (by decide +kernel)
set_option maxRecDepth 20000 in
theorem gX6_part_X6_many : GoodIn wsX6_part (va_wsS RX6 63 yX6_many wsX6_many) := goodIn_app (goodIn_of _ (by decide +kernel)) ggX6_part_X6_many
set_option maxRecDepth 20000 in
theorem ggX6_part_X6_goesOn : GoodIn wsX6_part wsX6_goesOn := goodIn_r _ [11, 3, 12, 4, 5, 6, 7, 16, 17, 18, 19, 20, 21, 22, 23, 24, 25, 26, 27, 28, 29, 30, 31] (by decide +kernel) (by decide +kernel)
set_option maxRecDepth 20000 in
theorem gX6_part_X6_goesOn : GoodIn wsX6_part (wsV RX6 131 RX6 yX6_goesOn wsX6_goesOn) := goodIn_app (goodIn_of _ (by decide +kernel)) ggX6_part_X6_goesOn
set_option maxRecDepth 20000 in
theorem ggX6_part_X6_isEarlier : GoodIn wsX6_part wsX6_isEarlier := goodIn_r _ [15] (by decide +kernel) (by decide +kernel)
set_option maxRecDepth 20000 in
theorem gX6_part_X6_isEarlier : GoodIn wsX6_part (va_wsS RX6 134 yX6_isEarlier wsX6_isEarlier) := goodIn_app (goodIn_of _ (by decide +kernel)) ggX6_part_X6_isEarlier
theorem dX6_part_0 : decode cX6_part 0 = .ok (.aload_n 0, 1) := by decide +kernel
theorem dX6_part_1 : decode cX6_part 1 = .ok (.sipush 1000, 3) := by decide +kernel
theorem dX6_part_4 : decode cX6_part 4 = .ok (.putfield 125, 3) := by decide +kernel
theorem dX6_part_7 : decode cX6_part 7 = .ok (.aload_n 0, 1) := by decide +kernel
theorem dX6_part_8 : decode cX6_part 8 = .ok (.iconst 0, 1) := by decide +kernel
theorem dX6_part_9 : decode cX6_part 9 = .ok (.putfield 128, 3) := by decide +kernel
theorem dX6_part_12 : decode cX6_part 12 = .ok (.iconst 0, 1) := by decide +kernel
theorem dX6_part_13 : decode cX6_part 13 = .ok (.istore_n 2, 1) := by decide +kernel
theorem dX6_part_14 : decode cX6_part 14 = .ok (.iload_n 2, 1) := by decide +kernel
theorem dX6_part_15 : decode cX6_part 15 = .ok (.iconst 1, 1) := by decide +kernel
theorem dX6_part_16 : decode cX6_part 16 = .ok (.aload_n 0, 1) := by decide +kernel
theorem dX6_part_17 : decode cX6_part 17 = .ok (.getfield 9, 3) := by decide +kernel
theorem dX6_part_20 : decode cX6_part 20 = .ok (.iconst 0, 1) := by decide +kernel
theorem dX6_part_21 : decode cX6_part 21 = .ok (.iaload, 1) := by decide +kernel
theorem dX6_part_22 : decode cX6_part 22 = .ok (.ishl, 1) := by decide +kernel
theorem dX6_part_23 : decode cX6_part 23 = .ok (.if_icmp .ge 104, 3) := by decide +kernel
theorem dX6_part_26 : decode cX6_part 26 = .ok (.iload_n 2, 1) := by decide +kernel
theorem dX6_part_27 : decode cX6_part 27 = .ok (.invokestatic 63, 3) := by decide +kernel
theorem dX6_part_30 : decode cX6_part 30 = .ok (.iload_n 1, 1) := by decide +kernel
theorem dX6_part_31 : decode cX6_part 31 = .ok (.iconst 1, 1) := by decide +kernel
theorem dX6_part_32 : decode cX6_part 32 = .ok (.isub, 1) := by decide +kernel
theorem dX6_part_33 : decode cX6_part 33 = .ok (.if_icmp .eq 6, 3) := by decide +kernel
theorem dX6_part_36 : decode cX6_part 36 = .ok (.goto 85, 3) := by decide +kernel
theorem dX6_part_39 : decode cX6_part 39 = .ok (.iconst 0, 1) := by decide +kernel
theorem dX6_part_40 : decode cX6_part 40 = .ok (.istore_n 3, 1) := by decide +kernel
theorem dX6_part_41 : decode cX6_part 41 = .ok (.iconst 1, 1) := by decide +kernel
theorem dX6_part_42 : decode cX6_part 42 = .ok (.istore 4, 2) := by decide +kernel
theorem dX6_part_44 : decode cX6_part 44 = .ok (.iload 4, 2) := by decide +kernel
theorem dX6_part_46 : decode cX6_part 46 = .ok (.aload_n 0, 1) := by decide +kernel
theorem dX6_part_47 : decode cX6_part 47 = .ok (.getfield 9, 3) := by decide +kernel
theorem dX6_part_50 : decode cX6_part 50 = .ok (.iconst 0, 1) := by decide +kernel
theorem dX6_part_51 : decode cX6_part 51 = .ok (.iaload, 1) := by decide +kernel
theorem dX6_part_52 : decode cX6_part 52 = .ok (.if_icmp .ge 32, 3) := by decide +kernel
theorem dX6_part_55 : decode cX6_part 55 = .ok (.iload_n 3, 1) := by decide +kernel
theorem dX6_part_56 : decode cX6_part 56 = .ok (.iload_n 2, 1) := by decide +kernel
theorem dX6_part_57 : decode cX6_part 57 = .ok (.iload 4, 2) := by decide +kernel
theorem dX6_part_59 : decode cX6_part 59 = .ok (.ishr, 1) := by decide +kernel
theorem dX6_part_60 : decode cX6_part 60 = .ok (.iconst 1, 1) := by decide +kernel
theorem dX6_part_61 : decode cX6_part 61 = .ok (.iand, 1) := by decide +kernel
theorem dX6_part_62 : decode cX6_part 62 = .ok (.iconst 1, 1) := by decide +kernel
theorem dX6_part_63 : decode cX6_part 63 = .ok (.if_icmp .ne 12, 3) := by decide +kernel
theorem dX6_part_66 : decode cX6_part 66 = .ok (.aload_n 0, 1) := by decide +kernel
theorem dX6_part_67 : decode cX6_part 67 = .ok (.iload 4, 2) := by decide +kernel
theorem dX6_part_69 : decode cX6_part 69 = .ok (.invokevirtual 131, 3) := by decide +kernel
theorem dX6_part_72 : decode cX6_part 72 = .ok (.goto 4, 3) := by decide +kernel
theorem dX6_part_75 : decode cX6_part 75 = .ok (.iconst 0, 1) := by decide +kernel
theorem dX6_part_76 : decode cX6_part 76 = .ok (.iadd, 1) := by decide +kernel
theorem dX6_part_77 : decode cX6_part 77 = .ok (.istore_n 3, 1) := by decide +kernel
theorem dX6_part_78 : decode cX6_part 78 = .ok (.iinc 4 1, 3) := by decide +kernel
theorem dX6_part_81 : decode cX6_part 81 = .ok (.goto (-37), 3) := by decide +kernel
theorem dX6_part_84 : decode cX6_part 84 = .ok (.iload_n 3, 1) := by decide +kernel
theorem dX6_part_85 : decode cX6_part 85 = .ok (.aload_n 0, 1) := by decide +kernel
theorem dX6_part_86 : decode cX6_part 86 = .ok (.getfield 125, 3) := by decide +kernel
theorem dX6_part_89 : decode cX6_part 89 = .ok (.if_icmp .lt 22, 3) := by decide +kernel
theorem dX6_part_92 : decode cX6_part 92 = .ok (.iload_n 3, 1) := by decide +kernel
theorem dX6_part_93 : decode cX6_part 93 = .ok (.aload_n 0, 1) := by decide +kernel
theorem dX6_part_94 : decode cX6_part 94 = .ok (.getfield 125, 3) := by decide +kernel
theorem dX6_part_97 : decode cX6_part 97 = .ok (.if_icmp .ne 24, 3) := by decide +kernel
theorem dX6_part_100 : decode cX6_part 100 = .ok (.iload_n 2, 1) := by decide +kernel
theorem dX6_part_101 : decode cX6_part 101 = .ok (.aload_n 0, 1) := by decide +kernel
theorem dX6_part_102 : decode cX6_part 102 = .ok (.getfield 128, 3) := by decide +kernel
theorem dX6_part_105 : decode cX6_part 105 = .ok (.invokestatic 134, 3) := by decide +kernel
theorem dX6_part_108 : decode cX6_part 108 = .ok (.ifCond .eq 13, 3) := by decide +kernel
theorem dX6_part_111 : decode cX6_part 111 = .ok (.aload_n 0, 1) := by decide +kernel
theorem dX6_part_112 : decode cX6_part 112 = .ok (.iload_n 3, 1) := by decide +kernel
theorem dX6_part_113 : decode cX6_part 113 = .ok (.putfield 125, 3) := by decide +kernel
theorem dX6_part_116 : decode cX6_part 116 = .ok (.aload_n 0, 1) := by decide +kernel
theorem dX6_part_117 : decode cX6_part 117 = .ok (.iload_n 2, 1) := by decide +kernel
theorem dX6_part_118 : decode cX6_part 118 = .ok (.putfield 128, 3) := by decide +kernel
theorem dX6_part_121 : decode cX6_part 121 = .ok (.iinc 2 2, 3) := by decide +kernel
theorem dX6_part_124 : decode cX6_part 124 = .ok (.goto (-110), 3) := by decide +kernel
theorem dX6_part_127 : decode cX6_part 127 = .ok (.return_, 1) := by decide +kernel
theorem dX6_isEarlier_0 : decode cX6_isEarlier 0 = .ok (.iload_n 0, 1) := by decide +kernel
theorem dX6_isEarlier_1 : decode cX6_isEarlier 1 = .ok (.iload_n 1, 1) := by decide +kernel
theorem dX6_isEarlier_2 : decode cX6_isEarlier 2 = .ok (.ixor, 1) := by decide +kernel
theorem dX6_isEarlier_3 : decode cX6_isEarlier 3 = .ok (.istore_n 2, 1) := by decide +kernel
theorem dX6_isEarlier_4 : decode cX6_isEarlier 4 = .ok (.iload_n 0, 1) := by decide +kernel
theorem dX6_isEarlier_5 : decode cX6_isEarlier 5 = .ok (.iload_n 2, 1) := by decide +kernel
theorem dX6_isEarlier_6 : decode cX6_isEarlier 6 = .ok (.iand, 1) := by decide +kernel
theorem dX6_isEarlier_7 : decode cX6_isEarlier 7 = .ok (.iload_n 2, 1) := by decide +kernel
theorem dX6_isEarlier_8 : decode cX6_isEarlier 8 = .ok (.ineg, 1) := by decide +kernel
theorem dX6_isEarlier_9 : decode cX6_isEarlier 9 = .ok (.iand, 1) := by decide +kernel
theorem dX6_isEarlier_10 : decode cX6_isEarlier 10 = .ok (.ifCond .eq 7, 3) := by decide +kernel
theorem dX6_isEarlier_13 : decode cX6_isEarlier 13 = .ok (.iconst 1, 1) := by decide +kernel
theorem dX6_isEarlier_14 : decode cX6_isEarlier 14 = .ok (.goto 4, 3) := by decide +kernel
theorem dX6_isEarlier_17 : decode cX6_isEarlier 17 = .ok (.iconst 0, 1) := by decide +kernel
theorem dX6_isEarlier_18 : decode cX6_isEarlier 18 = .ok (.ireturn, 1) := by decide +kernel
set_option maxRecDepth 20000 in
theorem ggX6_noStretches_X6_noOrder : GoodIn wsX6_noStretches wsX6_noOrder := goodIn_r _ [7, 1, 8, 9, 13, 14, 15, 16, 17, 18, 19, 20, 21, 22, 23, 24, 25, 26, 27, 28] (by decide +kernel) (by decide +kernel)
set_option maxRecDepth 20000 in
theorem gX6_noStretches_X6_noOrder : GoodIn wsX6_noStretches (wsV RX6 107 RX6 yX6_noOrder wsX6_noOrder) := goodIn_app (goodIn_of _ (by decide +kernel)) ggX6_noStretches_X6_noOrder
set_option maxRecDepth 20000 in
theorem ggX6_noStretches_X6_within : GoodIn wsX6_noStretches wsX6_within := goodIn_r _ [12] (by decide +kernel) (by decide +kernel)
set_option maxRecDepth 20000 in
theorem gX6_noStretches_X6_within : GoodIn wsX6_noStretches (va_wsS RX6 44 yX6_within wsX6_within) := goodIn_app (goodIn_of _ (by decide +kernel)) ggX6_noStretches_X6_within
theorem dX6_noStretches_0 : decode cX6_noStretches 0 = .ok (.aload_n 0, 1) := by decide +kernel
theorem dX6_noStretches_1 : decode cX6_noStretches 1 = .ok (.invokevirtual 107, 3) := by decide +kernel
theorem dX6_noStretches_4 : decode cX6_noStretches 4 = .ok (.ifCond .eq 10, 3) := by decide +kernel
theorem dX6_noStretches_7 : decode cX6_noStretches 7 = .ok (.aload_n 0, 1) := by decide +kernel
theorem dX6_noStretches_8 : decode cX6_noStretches 8 = .ok (.invokevirtual 107, 3) := by decide +kernel
theorem dX6_noStretches_11 : decode cX6_noStretches 11 = .ok (.goto 23, 3) := by decide +kernel
theorem dX6_noStretches_14 : decode cX6_noStretches 14 = .ok (.iload_n 1, 1) := by decide +kernel
theorem dX6_noStretches_15 : decode cX6_noStretches 15 = .ok (.iconst 1, 1) := by decide +kernel
theorem dX6_noStretches_16 : decode cX6_noStretches 16 = .ok (.aload_n 0, 1) := by decide +kernel
theorem dX6_noStretches_17 : decode cX6_noStretches 17 = .ok (.getfield 9, 3) := by decide +kernel
theorem dX6_noStretches_20 : decode cX6_noStretches 20 = .ok (.iconst 0, 1) := by decide +kernel
theorem dX6_noStretches_21 : decode cX6_noStretches 21 = .ok (.iaload, 1) := by decide +kernel
theorem dX6_noStretches_22 : decode cX6_noStretches 22 = .ok (.invokestatic 44, 3) := by decide +kernel
theorem dX6_noStretches_25 : decode cX6_noStretches 25 = .ok (.ifCond .eq 7, 3) := by decide +kernel
theorem dX6_noStretches_28 : decode cX6_noStretches 28 = .ok (.iconst 0, 1) := by decide +kernel
theorem dX6_noStretches_29 : decode cX6_noStretches 29 = .ok (.goto 5, 3) := by decide +kernel
theorem dX6_noStretches_32 : decode cX6_noStretches 32 = .ok (.ldc 48, 2) := by decide +kernel
theorem dX6_noStretches_34 : decode cX6_noStretches 34 = .ok (.ireturn, 1) := by decide +kernel
set_option maxRecDepth 20000 in
theorem ggX6_stretches_X6_noStretches : GoodIn wsX6_stretches wsX6_noStretches := goodIn_r _ [6, 7, 8, 9, 10, 11, 5, 12, 13, 14, 15, 16, 17, 60, 61, 62, 63, 64, 65, 66, 67, 68, 69, 70, 71, 72, 73, 74, 75] (by decide +kernel) (by decide +kernel)
set_option maxRecDepth 20000 in
theorem gX6_stretches_X6_noStretches : GoodIn wsX6_stretches (wsV RX6 137 RX6 yX6_noStretches wsX6_noStretches) := goodIn_app (goodIn_of _ (by decide +kernel)) ggX6_stretches_X6_noStretches
set_option maxRecDepth 20000 in
theorem ggX6_stretches_X6_finding : GoodIn wsX6_stretches wsX6_finding := goodIn_r _ [21, 22, 60, 61, 62, 63, 64, 65, 66, 67, 68, 69, 70, 71, 72, 73, 74, 75] (by decide +kernel) (by decide +kernel)
set_option maxRecDepth 20000 in
theorem gX6_stretches_X6_finding : GoodIn wsX6_stretches (wsV RX6 49 RX6 yX6_finding wsX6_finding) := goodIn_app (goodIn_of _ (by decide +kernel)) ggX6_stretches_X6_finding
set_option maxRecDepth 20000 in
theorem ggX6_stretches_X6_search : GoodIn wsX6_stretches wsX6_search := goodIn_r _ [26, 7, 27, 28, 29, 30, 31, 32, 33, 34, 5, 35, 36, 37, 38, 39, 40, 41, 42, 43, 44, 45, 46, 47, 60, 61, 62, 63, 64, 65, 66, 67, 68, 69, 70, 71, 72, 73, 74, 75] (by decide +kernel) (by decide +kernel)
set_option maxRecDepth 20000 in
theorem gX6_stretches_X6_search : GoodIn wsX6_stretches (wsV RX6 111 RX6 yX6_search wsX6_search) := goodIn_app (goodIn_of _ (by decide +kernel)) ggX6_stretches_X6_search
set_option maxRecDepth 20000 in
theorem ggX6_stretches_X6_part : GoodIn wsX6_stretches wsX6_part := goodIn_r _ [51, 1, 52, 7, 40, 41, 5, 42, 53, 54, 55, 56, 47, 57, 58, 59, 60, 61, 62, 63, 64, 65, 66, 67, 68, 69, 70, 71, 72, 73, 74, 75] (by decide +kernel) (by decide +kernel)
set_option maxRecDepth 20000 in
theorem gX6_stretches_X6_part : GoodIn wsX6_stretches (wsV RX6 140 RX6 yX6_part wsX6_part) := goodIn_app (goodIn_of _ (by decide +kernel)) ggX6_stretches_X6_part
theorem dX6_stretches_0 : decode cX6_stretches 0 = .ok (.aload_n 0, 1) := by decide +kernel
theorem dX6_stretches_1 : decode cX6_stretches 1 = .ok (.iload_n 1, 1) := by decide +kernel
theorem dX6_stretches_2 : decode cX6_stretches 2 = .ok (.invokevirtual 137, 3) := by decide +kernel
theorem dX6_stretches_5 : decode cX6_stretches 5 = .ok (.ifCond .eq 13, 3) := by decide +kernel
theorem dX6_stretches_8 : decode cX6_stretches 8 = .ok (.aload_n 0, 1) := by decide +kernel
theorem dX6_stretches_9 : decode cX6_stretches 9 = .ok (.aload_n 0, 1) := by decide +kernel
theorem dX6_stretches_10 : decode cX6_stretches 10 = .ok (.iload_n 1, 1) := by decide +kernel
theorem dX6_stretches_11 : decode cX6_stretches 11 = .ok (.invokevirtual 137, 3) := by decide +kernel
theorem dX6_stretches_14 : decode cX6_stretches 14 = .ok (.invokevirtual 49, 3) := by decide +kernel
theorem dX6_stretches_17 : decode cX6_stretches 17 = .ok (.ireturn, 1) := by decide +kernel
theorem dX6_stretches_18 : decode cX6_stretches 18 = .ok (.aload_n 0, 1) := by decide +kernel
theorem dX6_stretches_19 : decode cX6_stretches 19 = .ok (.sipush 4095, 3) := by decide +kernel
theorem dX6_stretches_22 : decode cX6_stretches 22 = .ok (.invokevirtual 111, 3) := by decide +kernel
theorem dX6_stretches_25 : decode cX6_stretches 25 = .ok (.aload_n 0, 1) := by decide +kernel
theorem dX6_stretches_26 : decode cX6_stretches 26 = .ok (.iload_n 1, 1) := by decide +kernel
theorem dX6_stretches_27 : decode cX6_stretches 27 = .ok (.invokevirtual 140, 3) := by decide +kernel
theorem dX6_stretches_30 : decode cX6_stretches 30 = .ok (.aload_n 0, 1) := by decide +kernel
theorem dX6_stretches_31 : decode cX6_stretches 31 = .ok (.getfield 125, 3) := by decide +kernel
theorem dX6_stretches_34 : decode cX6_stretches 34 = .ok (.ireturn, 1) := by decide +kernel
set_option maxRecDepth 20000 in
theorem ggX6_border_X6_noStretches : GoodIn wsX6_border wsX6_noStretches := goodIn_r _ [7, 8, 1, 9, 10, 11, 6, 12, 13, 14, 15, 16, 17, 60, 61, 62, 63, 64, 65, 66, 67, 68, 69, 70, 71, 72, 73, 74, 75] (by decide +kernel) (by decide +kernel)
set_option maxRecDepth 20000 in
theorem gX6_border_X6_noStretches : GoodIn wsX6_border (wsV RX6 137 RX6 yX6_noStretches wsX6_noStretches) := goodIn_app (goodIn_of _ (by decide +kernel)) ggX6_border_X6_noStretches
set_option maxRecDepth 20000 in
theorem ggX6_border_X6_finding : GoodIn wsX6_border wsX6_finding := goodIn_r _ [21, 22, 60, 61, 62, 63, 64, 65, 66, 67, 68, 69, 70, 71, 72, 73, 74, 75] (by decide +kernel) (by decide +kernel)
set_option maxRecDepth 20000 in
theorem gX6_border_X6_finding : GoodIn wsX6_border (wsV RX6 49 RX6 yX6_finding wsX6_finding) := goodIn_app (goodIn_of _ (by decide +kernel)) ggX6_border_X6_finding
set_option maxRecDepth 20000 in
theorem ggX6_border_X6_within : GoodIn wsX6_border wsX6_within := goodIn_r _ [17] (by decide +kernel) (by decide +kernel)
set_option maxRecDepth 20000 in
theorem gX6_border_X6_within : GoodIn wsX6_border (va_wsS RX6 44 yX6_within wsX6_within) := goodIn_app (goodIn_of _ (by decide +kernel)) ggX6_border_X6_within
set_option maxRecDepth 20000 in
theorem ggX6_border_X6_search : GoodIn wsX6_border wsX6_search := goodIn_r _ [26, 8, 27, 28, 29, 30, 31, 32, 33, 34, 6, 35, 36, 37, 38, 39, 40, 41, 42, 43, 44, 45, 46, 47, 60, 61, 62, 63, 64, 65, 66, 67, 68, 69, 70, 71, 72, 73, 74, 75] (by decide +kernel) (by decide +kernel)
set_option maxRecDepth 20000 in
theorem gX6_border_X6_search : GoodIn wsX6_border (wsV RX6 111 RX6 yX6_search wsX6_search) := goodIn_app (goodIn_of _ (by decide +kernel)) ggX6_border_X6_search
set_option maxRecDepth 20000 in
theorem ggX6_border_X6_part : GoodIn wsX6_border wsX6_part := goodIn_r _ [51, 52, 2, 8, 40, 41, 6, 42, 53, 54, 55, 56, 47, 57, 58, 59, 60, 61, 62, 63, 64, 65, 66, 67, 68, 69, 70, 71, 72, 73, 74, 75] (by decide +kernel) (by decide +kernel)
set_option maxRecDepth 20000 in
theorem gX6_border_X6_part : GoodIn wsX6_border (wsV RX6 140 RX6 yX6_part wsX6_part) := goodIn_app (goodIn_of _ (by decide +kernel)) ggX6_border_X6_part
theorem dX6_border_0 : decode cX6_border 0 = .ok (.aload_n 0, 1) := by decide +kernel
theorem dX6_border_1 : decode cX6_border 1 = .ok (.iload_n 1, 1) := by decide +kernel
theorem dX6_border_2 : decode cX6_border 2 = .ok (.invokevirtual 137, 3) := by decide +kernel
theorem dX6_border_5 : decode cX6_border 5 = .ok (.ifCond .eq 13, 3) := by decide +kernel
theorem dX6_border_8 : decode cX6_border 8 = .ok (.aload_n 0, 1) := by decide +kernel
theorem dX6_border_9 : decode cX6_border 9 = .ok (.aload_n 0, 1) := by decide +kernel
theorem dX6_border_10 : decode cX6_border 10 = .ok (.iload_n 1, 1) := by decide +kernel
theorem dX6_border_11 : decode cX6_border 11 = .ok (.invokevirtual 137, 3) := by decide +kernel
theorem dX6_border_14 : decode cX6_border 14 = .ok (.invokevirtual 49, 3) := by decide +kernel
theorem dX6_border_17 : decode cX6_border 17 = .ok (.ireturn, 1) := by decide +kernel
theorem dX6_border_18 : decode cX6_border 18 = .ok (.iload_n 2, 1) := by decide +kernel
theorem dX6_border_19 : decode cX6_border 19 = .ok (.iconst 0, 1) := by decide +kernel
theorem dX6_border_20 : decode cX6_border 20 = .ok (.iload_n 1, 1) := by decide +kernel
theorem dX6_border_21 : decode cX6_border 21 = .ok (.iconst 1, 1) := by decide +kernel
theorem dX6_border_22 : decode cX6_border 22 = .ok (.isub, 1) := by decide +kernel
theorem dX6_border_23 : decode cX6_border 23 = .ok (.invokestatic 44, 3) := by decide +kernel
theorem dX6_border_26 : decode cX6_border 26 = .ok (.ifCond .ne 10, 3) := by decide +kernel
theorem dX6_border_29 : decode cX6_border 29 = .ok (.aload_n 0, 1) := by decide +kernel
theorem dX6_border_30 : decode cX6_border 30 = .ok (.ldc 48, 2) := by decide +kernel
theorem dX6_border_32 : decode cX6_border 32 = .ok (.invokevirtual 49, 3) := by decide +kernel
theorem dX6_border_35 : decode cX6_border 35 = .ok (.ireturn, 1) := by decide +kernel
theorem dX6_border_36 : decode cX6_border 36 = .ok (.aload_n 0, 1) := by decide +kernel
theorem dX6_border_37 : decode cX6_border 37 = .ok (.sipush 4095, 3) := by decide +kernel
theorem dX6_border_40 : decode cX6_border 40 = .ok (.invokevirtual 111, 3) := by decide +kernel
theorem dX6_border_43 : decode cX6_border 43 = .ok (.aload_n 0, 1) := by decide +kernel
theorem dX6_border_44 : decode cX6_border 44 = .ok (.iload_n 1, 1) := by decide +kernel
theorem dX6_border_45 : decode cX6_border 45 = .ok (.invokevirtual 140, 3) := by decide +kernel
theorem dX6_border_48 : decode cX6_border 48 = .ok (.iload_n 2, 1) := by decide +kernel
theorem dX6_border_49 : decode cX6_border 49 = .ok (.istore_n 3, 1) := by decide +kernel
theorem dX6_border_50 : decode cX6_border 50 = .ok (.iconst 0, 1) := by decide +kernel
theorem dX6_border_51 : decode cX6_border 51 = .ok (.istore 4, 2) := by decide +kernel
theorem dX6_border_53 : decode cX6_border 53 = .ok (.iload_n 3, 1) := by decide +kernel
theorem dX6_border_54 : decode cX6_border 54 = .ok (.ifCond .le 21, 3) := by decide +kernel
theorem dX6_border_57 : decode cX6_border 57 = .ok (.iinc 4 1, 3) := by decide +kernel
theorem dX6_border_60 : decode cX6_border 60 = .ok (.iload_n 3, 1) := by decide +kernel
theorem dX6_border_61 : decode cX6_border 61 = .ok (.aload_n 0, 1) := by decide +kernel
theorem dX6_border_62 : decode cX6_border 62 = .ok (.getfield 128, 3) := by decide +kernel
theorem dX6_border_65 : decode cX6_border 65 = .ok (.iload 4, 2) := by decide +kernel
theorem dX6_border_67 : decode cX6_border 67 = .ok (.ishr, 1) := by decide +kernel
theorem dX6_border_68 : decode cX6_border 68 = .ok (.iconst 1, 1) := by decide +kernel
theorem dX6_border_69 : decode cX6_border 69 = .ok (.iand, 1) := by decide +kernel
theorem dX6_border_70 : decode cX6_border 70 = .ok (.isub, 1) := by decide +kernel
theorem dX6_border_71 : decode cX6_border 71 = .ok (.istore_n 3, 1) := by decide +kernel
theorem dX6_border_72 : decode cX6_border 72 = .ok (.goto (-19), 3) := by decide +kernel
theorem dX6_border_75 : decode cX6_border 75 = .ok (.iload 4, 2) := by decide +kernel
theorem dX6_border_77 : decode cX6_border 77 = .ok (.ireturn, 1) := by decide +kernel
set_option maxRecDepth 20000 in
theorem ggX6_yearOf_X6_below : GoodIn wsX6_yearOf wsX6_below := goodIn_r _ [13, 1, 14, 15, 16, 17, 18, 19, 20, 21, 22, 23, 24, 25, 26, 27, 28, 29] (by decide +kernel) (by decide +kernel)
set_option maxRecDepth 20000 in
theorem gX6_yearOf_X6_below : GoodIn wsX6_yearOf (wsV RX6 79 RX6 yX6_below wsX6_below) := goodIn_app (goodIn_of _ (by decide +kernel)) ggX6_yearOf_X6_below
theorem dX6_yearOf_0 : decode cX6_yearOf 0 = .ok (.aload_n 0, 1) := by decide +kernel
theorem dX6_yearOf_1 : decode cX6_yearOf 1 = .ok (.getfield 9, 3) := by decide +kernel
theorem dX6_yearOf_4 : decode cX6_yearOf 4 = .ok (.iload_n 2, 1) := by decide +kernel
theorem dX6_yearOf_5 : decode cX6_yearOf 5 = .ok (.ifCond .eq 8, 3) := by decide +kernel
theorem dX6_yearOf_8 : decode cX6_yearOf 8 = .ok (.bipush 52, 2) := by decide +kernel
theorem dX6_yearOf_10 : decode cX6_yearOf 10 = .ok (.goto 5, 3) := by decide +kernel
theorem dX6_yearOf_13 : decode cX6_yearOf 13 = .ok (.bipush 42, 2) := by decide +kernel
theorem dX6_yearOf_15 : decode cX6_yearOf 15 = .ok (.iload_n 1, 1) := by decide +kernel
theorem dX6_yearOf_16 : decode cX6_yearOf 16 = .ok (.iadd, 1) := by decide +kernel
theorem dX6_yearOf_17 : decode cX6_yearOf 17 = .ok (.iaload, 1) := by decide +kernel
theorem dX6_yearOf_18 : decode cX6_yearOf 18 = .ok (.istore_n 3, 1) := by decide +kernel
theorem dX6_yearOf_19 : decode cX6_yearOf 19 = .ok (.aload_n 0, 1) := by decide +kernel
theorem dX6_yearOf_20 : decode cX6_yearOf 20 = .ok (.iload_n 1, 1) := by decide +kernel
theorem dX6_yearOf_21 : decode cX6_yearOf 21 = .ok (.invokevirtual 79, 3) := by decide +kernel
theorem dX6_yearOf_24 : decode cX6_yearOf 24 = .ok (.istore 4, 2) := by decide +kernel
theorem dX6_yearOf_26 : decode cX6_yearOf 26 = .ok (.iconst 0, 1) := by decide +kernel
theorem dX6_yearOf_27 : decode cX6_yearOf 27 = .ok (.istore 5, 2) := by decide +kernel
theorem dX6_yearOf_29 : decode cX6_yearOf 29 = .ok (.iload 5, 2) := by decide +kernel
theorem dX6_yearOf_31 : decode cX6_yearOf 31 = .ok (.aload_n 0, 1) := by decide +kernel
theorem dX6_yearOf_32 : decode cX6_yearOf 32 = .ok (.getfield 9, 3) := by decide +kernel
theorem dX6_yearOf_35 : decode cX6_yearOf 35 = .ok (.iconst 0, 1) := by decide +kernel
theorem dX6_yearOf_36 : decode cX6_yearOf 36 = .ok (.iaload, 1) := by decide +kernel
theorem dX6_yearOf_37 : decode cX6_yearOf 37 = .ok (.if_icmp .ge 72, 3) := by decide +kernel
theorem dX6_yearOf_40 : decode cX6_yearOf 40 = .ok (.iload_n 2, 1) := by decide +kernel
theorem dX6_yearOf_41 : decode cX6_yearOf 41 = .ok (.ifCond .ne 29, 3) := by decide +kernel
theorem dX6_yearOf_44 : decode cX6_yearOf 44 = .ok (.iload 4, 2) := by decide +kernel
theorem dX6_yearOf_46 : decode cX6_yearOf 46 = .ok (.iload 5, 2) := by decide +kernel
theorem dX6_yearOf_48 : decode cX6_yearOf 48 = .ok (.ishr, 1) := by decide +kernel
theorem dX6_yearOf_49 : decode cX6_yearOf 49 = .ok (.iconst 1, 1) := by decide +kernel
theorem dX6_yearOf_50 : decode cX6_yearOf 50 = .ok (.iand, 1) := by decide +kernel
theorem dX6_yearOf_51 : decode cX6_yearOf 51 = .ok (.iconst 1, 1) := by decide +kernel
theorem dX6_yearOf_52 : decode cX6_yearOf 52 = .ok (.if_icmp .ne 18, 3) := by decide +kernel
theorem dX6_yearOf_55 : decode cX6_yearOf 55 = .ok (.iload_n 3, 1) := by decide +kernel
theorem dX6_yearOf_56 : decode cX6_yearOf 56 = .ok (.aload_n 0, 1) := by decide +kernel
theorem dX6_yearOf_57 : decode cX6_yearOf 57 = .ok (.getfield 9, 3) := by decide +kernel
theorem dX6_yearOf_60 : decode cX6_yearOf 60 = .ok (.bipush 42, 2) := by decide +kernel
theorem dX6_yearOf_62 : decode cX6_yearOf 62 = .ok (.iload 5, 2) := by decide +kernel
theorem dX6_yearOf_64 : decode cX6_yearOf 64 = .ok (.iadd, 1) := by decide +kernel
theorem dX6_yearOf_65 : decode cX6_yearOf 65 = .ok (.iaload, 1) := by decide +kernel
theorem dX6_yearOf_66 : decode cX6_yearOf 66 = .ok (.invokestatic 73, 3) := by decide +kernel
theorem dX6_yearOf_69 : decode cX6_yearOf 69 = .ok (.istore_n 3, 1) := by decide +kernel
theorem dX6_yearOf_70 : decode cX6_yearOf 70 = .ok (.iload_n 2, 1) := by decide +kernel
theorem dX6_yearOf_71 : decode cX6_yearOf 71 = .ok (.ifCond .eq 32, 3) := by decide +kernel
theorem dX6_yearOf_74 : decode cX6_yearOf 74 = .ok (.aload_n 0, 1) := by decide +kernel
theorem dX6_yearOf_75 : decode cX6_yearOf 75 = .ok (.iload 5, 2) := by decide +kernel
theorem dX6_yearOf_77 : decode cX6_yearOf 77 = .ok (.invokevirtual 79, 3) := by decide +kernel
theorem dX6_yearOf_80 : decode cX6_yearOf 80 = .ok (.iload_n 1, 1) := by decide +kernel
theorem dX6_yearOf_81 : decode cX6_yearOf 81 = .ok (.ishr, 1) := by decide +kernel
theorem dX6_yearOf_82 : decode cX6_yearOf 82 = .ok (.iconst 1, 1) := by decide +kernel
theorem dX6_yearOf_83 : decode cX6_yearOf 83 = .ok (.iand, 1) := by decide +kernel
theorem dX6_yearOf_84 : decode cX6_yearOf 84 = .ok (.iconst 1, 1) := by decide +kernel
theorem dX6_yearOf_85 : decode cX6_yearOf 85 = .ok (.if_icmp .ne 18, 3) := by decide +kernel
theorem dX6_yearOf_88 : decode cX6_yearOf 88 = .ok (.iload_n 3, 1) := by decide +kernel
theorem dX6_yearOf_89 : decode cX6_yearOf 89 = .ok (.aload_n 0, 1) := by decide +kernel
theorem dX6_yearOf_90 : decode cX6_yearOf 90 = .ok (.getfield 9, 3) := by decide +kernel
theorem dX6_yearOf_93 : decode cX6_yearOf 93 = .ok (.bipush 52, 2) := by decide +kernel
theorem dX6_yearOf_95 : decode cX6_yearOf 95 = .ok (.iload 5, 2) := by decide +kernel
theorem dX6_yearOf_97 : decode cX6_yearOf 97 = .ok (.iadd, 1) := by decide +kernel
theorem dX6_yearOf_98 : decode cX6_yearOf 98 = .ok (.iaload, 1) := by decide +kernel
theorem dX6_yearOf_99 : decode cX6_yearOf 99 = .ok (.invokestatic 143, 3) := by decide +kernel
theorem dX6_yearOf_102 : decode cX6_yearOf 102 = .ok (.istore_n 3, 1) := by decide +kernel
theorem dX6_yearOf_103 : decode cX6_yearOf 103 = .ok (.iinc 5 1, 3) := by decide +kernel
theorem dX6_yearOf_106 : decode cX6_yearOf 106 = .ok (.goto (-77), 3) := by decide +kernel
theorem dX6_yearOf_109 : decode cX6_yearOf 109 = .ok (.iload_n 3, 1) := by decide +kernel
theorem dX6_yearOf_110 : decode cX6_yearOf 110 = .ok (.ireturn, 1) := by decide +kernel
set_option maxRecDepth 20000 in
theorem ggX6_year_X6_isGrave : GoodIn wsX6_year wsX6_isGrave := goodIn_r _ [6, 7, 8, 9, 5, 10, 31, 32, 33, 34, 35, 36, 37, 38, 39, 40, 41, 42, 43, 44, 45, 46] (by decide +kernel) (by decide +kernel)
set_option maxRecDepth 20000 in
theorem gX6_year_X6_isGrave : GoodIn wsX6_year (wsV RX6 54 RX6 yX6_isGrave wsX6_isGrave) := goodIn_app (goodIn_of _ (by decide +kernel)) ggX6_year_X6_isGrave
set_option maxRecDepth 20000 in
theorem ggX6_year_X6_yearOf : GoodIn wsX6_year wsX6_yearOf := goodIn_r _ [14, 7, 15, 16, 17, 18, 19, 20, 21, 22, 23, 24, 5, 25, 31, 32, 33, 34, 35, 36, 37, 38, 39, 40, 41, 42, 43, 44, 45, 46] (by decide +kernel) (by decide +kernel)
set_option maxRecDepth 20000 in
theorem gX6_year_X6_yearOf : GoodIn wsX6_year (wsV RX6 146 RX6 yX6_yearOf wsX6_yearOf) := goodIn_app (goodIn_of _ (by decide +kernel)) ggX6_year_X6_yearOf
set_option maxRecDepth 20000 in
theorem ggX6_year_X6_finding : GoodIn wsX6_year wsX6_finding := goodIn_r _ [29, 30, 31, 32, 33, 34, 35, 36, 37, 38, 39, 40, 41, 42, 43, 44, 45, 46] (by decide +kernel) (by decide +kernel)
set_option maxRecDepth 20000 in
theorem gX6_year_X6_finding : GoodIn wsX6_year (wsV RX6 49 RX6 yX6_finding wsX6_finding) := goodIn_app (goodIn_of _ (by decide +kernel)) ggX6_year_X6_finding
theorem dX6_year_0 : decode cX6_year 0 = .ok (.aload_n 0, 1) := by decide +kernel
theorem dX6_year_1 : decode cX6_year 1 = .ok (.iload_n 1, 1) := by decide +kernel
theorem dX6_year_2 : decode cX6_year 2 = .ok (.invokevirtual 54, 3) := by decide +kernel
theorem dX6_year_5 : decode cX6_year 5 = .ok (.ifCond .eq 12, 3) := by decide +kernel
theorem dX6_year_8 : decode cX6_year 8 = .ok (.aload_n 0, 1) := by decide +kernel
theorem dX6_year_9 : decode cX6_year 9 = .ok (.iload_n 1, 1) := by decide +kernel
theorem dX6_year_10 : decode cX6_year 10 = .ok (.iload_n 2, 1) := by decide +kernel
theorem dX6_year_11 : decode cX6_year 11 = .ok (.invokevirtual 146, 3) := by decide +kernel
theorem dX6_year_14 : decode cX6_year 14 = .ok (.goto 9, 3) := by decide +kernel
theorem dX6_year_17 : decode cX6_year 17 = .ok (.aload_n 0, 1) := by decide +kernel
theorem dX6_year_18 : decode cX6_year 18 = .ok (.ldc 48, 2) := by decide +kernel
theorem dX6_year_20 : decode cX6_year 20 = .ok (.invokevirtual 49, 3) := by decide +kernel
theorem dX6_year_23 : decode cX6_year 23 = .ok (.ireturn, 1) := by decide +kernel
set_option maxRecDepth 20000 in
theorem ggX6_wrong_X6_yearOf : GoodIn wsX6_wrong wsX6_yearOf := goodIn_r _ [6, 1, 7, 8, 9, 10, 11, 12, 13, 14, 15, 16, 5, 17, 18, 19, 20, 21, 22, 23, 24, 25, 26, 27, 28, 29, 30, 31, 32, 33] (by decide +kernel) (by decide +kernel)
set_option maxRecDepth 20000 in
theorem gX6_wrong_X6_yearOf : GoodIn wsX6_wrong (wsV RX6 146 RX6 yX6_yearOf wsX6_yearOf) := goodIn_app (goodIn_of _ (by decide +kernel)) ggX6_wrong_X6_yearOf
theorem dX6_wrong_0 : decode cX6_wrong 0 = .ok (.iconst 0, 1) := by decide +kernel
theorem dX6_wrong_1 : decode cX6_wrong 1 = .ok (.istore_n 1, 1) := by decide +kernel
theorem dX6_wrong_2 : decode cX6_wrong 2 = .ok (.iload_n 1, 1) := by decide +kernel
theorem dX6_wrong_3 : decode cX6_wrong 3 = .ok (.aload_n 0, 1) := by decide +kernel
theorem dX6_wrong_4 : decode cX6_wrong 4 = .ok (.getfield 9, 3) := by decide +kernel
theorem dX6_wrong_7 : decode cX6_wrong 7 = .ok (.iconst 0, 1) := by decide +kernel
theorem dX6_wrong_8 : decode cX6_wrong 8 = .ok (.iaload, 1) := by decide +kernel
theorem dX6_wrong_9 : decode cX6_wrong 9 = .ok (.if_icmp .ge 26, 3) := by decide +kernel
theorem dX6_wrong_12 : decode cX6_wrong 12 = .ok (.aload_n 0, 1) := by decide +kernel
theorem dX6_wrong_13 : decode cX6_wrong 13 = .ok (.iload_n 1, 1) := by decide +kernel
theorem dX6_wrong_14 : decode cX6_wrong 14 = .ok (.iconst 0, 1) := by decide +kernel
theorem dX6_wrong_15 : decode cX6_wrong 15 = .ok (.invokevirtual 146, 3) := by decide +kernel
theorem dX6_wrong_18 : decode cX6_wrong 18 = .ok (.aload_n 0, 1) := by decide +kernel
theorem dX6_wrong_19 : decode cX6_wrong 19 = .ok (.iload_n 1, 1) := by decide +kernel
theorem dX6_wrong_20 : decode cX6_wrong 20 = .ok (.iconst 1, 1) := by decide +kernel
theorem dX6_wrong_21 : decode cX6_wrong 21 = .ok (.invokevirtual 146, 3) := by decide +kernel
theorem dX6_wrong_24 : decode cX6_wrong 24 = .ok (.if_icmp .le 5, 3) := by decide +kernel
theorem dX6_wrong_27 : decode cX6_wrong 27 = .ok (.iload_n 1, 1) := by decide +kernel
theorem dX6_wrong_28 : decode cX6_wrong 28 = .ok (.ireturn, 1) := by decide +kernel
theorem dX6_wrong_29 : decode cX6_wrong 29 = .ok (.iinc 1 1, 3) := by decide +kernel
theorem dX6_wrong_32 : decode cX6_wrong 32 = .ok (.goto (-30), 3) := by decide +kernel
theorem dX6_wrong_35 : decode cX6_wrong 35 = .ok (.iconst (-1), 1) := by decide +kernel
theorem dX6_wrong_36 : decode cX6_wrong 36 = .ok (.ireturn, 1) := by decide +kernel
set_option maxRecDepth 20000 in
theorem ggX6_in_X6_isYear : GoodIn wsX6_in wsX6_isYear := goodIn_r _ [6, 7, 8, 5, 9] (by decide +kernel) (by decide +kernel)
set_option maxRecDepth 20000 in
theorem gX6_in_X6_isYear : GoodIn wsX6_in (va_wsS RX6 69 yX6_isYear wsX6_isYear) := goodIn_app (goodIn_of _ (by decide +kernel)) ggX6_in_X6_isYear
set_option maxRecDepth 20000 in
theorem ggX6_in_X6_finding : GoodIn wsX6_in wsX6_finding := goodIn_r _ [13, 14, 30, 31, 32, 33, 34, 35, 36, 37, 38, 39, 40, 41, 42, 43, 44, 45] (by decide +kernel) (by decide +kernel)
set_option maxRecDepth 20000 in
theorem gX6_in_X6_finding : GoodIn wsX6_in (wsV RX6 49 RX6 yX6_finding wsX6_finding) := goodIn_app (goodIn_of _ (by decide +kernel)) ggX6_in_X6_finding
set_option maxRecDepth 20000 in
theorem ggX6_in_X6_yearOf : GoodIn wsX6_in wsX6_yearOf := goodIn_r _ [18, 2, 19, 20, 21, 22, 23, 24, 25, 26, 27, 28, 5, 29, 30, 31, 32, 33, 34, 35, 36, 37, 38, 39, 40, 41, 42, 43, 44, 45] (by decide +kernel) (by decide +kernel)
set_option maxRecDepth 20000 in
theorem gX6_in_X6_yearOf : GoodIn wsX6_in (wsV RX6 146 RX6 yX6_yearOf wsX6_yearOf) := goodIn_app (goodIn_of _ (by decide +kernel)) ggX6_in_X6_yearOf
set_option maxRecDepth 20000 in
theorem ggX6_in_X6_within : GoodIn wsX6_in wsX6_within := goodIn_r _ [9] (by decide +kernel) (by decide +kernel)
set_option maxRecDepth 20000 in
theorem gX6_in_X6_within : GoodIn wsX6_in (va_wsS RX6 44 yX6_within wsX6_within) := goodIn_app (goodIn_of _ (by decide +kernel)) ggX6_in_X6_within
theorem dX6_in_0 : decode cX6_in 0 = .ok (.iload_n 1, 1) := by decide +kernel
theorem dX6_in_1 : decode cX6_in 1 = .ok (.invokestatic 69, 3) := by decide +kernel
theorem dX6_in_4 : decode cX6_in 4 = .ok (.ifCond .ne 10, 3) := by decide +kernel
theorem dX6_in_7 : decode cX6_in 7 = .ok (.aload_n 0, 1) := by decide +kernel
theorem dX6_in_8 : decode cX6_in 8 = .ok (.ldc 48, 2) := by decide +kernel
theorem dX6_in_10 : decode cX6_in 10 = .ok (.invokevirtual 49, 3) := by decide +kernel
theorem dX6_in_13 : decode cX6_in 13 = .ok (.ireturn, 1) := by decide +kernel
theorem dX6_in_14 : decode cX6_in 14 = .ok (.iconst 0, 1) := by decide +kernel
theorem dX6_in_15 : decode cX6_in 15 = .ok (.istore_n 2, 1) := by decide +kernel
theorem dX6_in_16 : decode cX6_in 16 = .ok (.iconst 0, 1) := by decide +kernel
theorem dX6_in_17 : decode cX6_in 17 = .ok (.istore_n 3, 1) := by decide +kernel
theorem dX6_in_18 : decode cX6_in 18 = .ok (.iload_n 3, 1) := by decide +kernel
theorem dX6_in_19 : decode cX6_in 19 = .ok (.aload_n 0, 1) := by decide +kernel
theorem dX6_in_20 : decode cX6_in 20 = .ok (.getfield 9, 3) := by decide +kernel
theorem dX6_in_23 : decode cX6_in 23 = .ok (.iconst 0, 1) := by decide +kernel
theorem dX6_in_24 : decode cX6_in 24 = .ok (.iaload, 1) := by decide +kernel
theorem dX6_in_25 : decode cX6_in 25 = .ok (.if_icmp .ge 36, 3) := by decide +kernel
theorem dX6_in_28 : decode cX6_in 28 = .ok (.iload_n 2, 1) := by decide +kernel
theorem dX6_in_29 : decode cX6_in 29 = .ok (.iload_n 1, 1) := by decide +kernel
theorem dX6_in_30 : decode cX6_in 30 = .ok (.aload_n 0, 1) := by decide +kernel
theorem dX6_in_31 : decode cX6_in 31 = .ok (.iload_n 3, 1) := by decide +kernel
theorem dX6_in_32 : decode cX6_in 32 = .ok (.iconst 0, 1) := by decide +kernel
theorem dX6_in_33 : decode cX6_in 33 = .ok (.invokevirtual 146, 3) := by decide +kernel
theorem dX6_in_36 : decode cX6_in 36 = .ok (.aload_n 0, 1) := by decide +kernel
theorem dX6_in_37 : decode cX6_in 37 = .ok (.iload_n 3, 1) := by decide +kernel
theorem dX6_in_38 : decode cX6_in 38 = .ok (.iconst 1, 1) := by decide +kernel
theorem dX6_in_39 : decode cX6_in 39 = .ok (.invokevirtual 146, 3) := by decide +kernel
theorem dX6_in_42 : decode cX6_in 42 = .ok (.invokestatic 44, 3) := by decide +kernel
theorem dX6_in_45 : decode cX6_in 45 = .ok (.ifCond .eq 7, 3) := by decide +kernel
theorem dX6_in_48 : decode cX6_in 48 = .ok (.iconst 1, 1) := by decide +kernel
theorem dX6_in_49 : decode cX6_in 49 = .ok (.goto 4, 3) := by decide +kernel
theorem dX6_in_52 : decode cX6_in 52 = .ok (.iconst 0, 1) := by decide +kernel
theorem dX6_in_53 : decode cX6_in 53 = .ok (.iadd, 1) := by decide +kernel
theorem dX6_in_54 : decode cX6_in 54 = .ok (.istore_n 2, 1) := by decide +kernel
theorem dX6_in_55 : decode cX6_in 55 = .ok (.iinc 3 1, 3) := by decide +kernel
theorem dX6_in_58 : decode cX6_in 58 = .ok (.goto (-40), 3) := by decide +kernel
theorem dX6_in_61 : decode cX6_in 61 = .ok (.iload_n 2, 1) := by decide +kernel
theorem dX6_in_62 : decode cX6_in 62 = .ok (.ireturn, 1) := by decide +kernel
set_option maxRecDepth 20000 in
theorem ggX6_used_X6_isGood : GoodIn wsX6_used wsX6_isGood := goodIn_r _ [7, 8, 9, 6, 10] (by decide +kernel) (by decide +kernel)
set_option maxRecDepth 20000 in
theorem gX6_used_X6_isGood : GoodIn wsX6_used (va_wsS RX6 115 yX6_isGood wsX6_isGood) := goodIn_app (goodIn_of _ (by decide +kernel)) ggX6_used_X6_isGood
set_option maxRecDepth 20000 in
theorem ggX6_used_X6_finding : GoodIn wsX6_used wsX6_finding := goodIn_r _ [14, 15, 35, 36, 37, 38, 39, 40, 41, 42, 43, 44, 45, 46, 47, 48, 49, 50] (by decide +kernel) (by decide +kernel)
set_option maxRecDepth 20000 in
theorem gX6_used_X6_finding : GoodIn wsX6_used (wsV RX6 49 RX6 yX6_finding wsX6_finding) := goodIn_app (goodIn_of _ (by decide +kernel)) ggX6_used_X6_finding
set_option maxRecDepth 20000 in
theorem ggX6_used_X6_has : GoodIn wsX6_used wsX6_has := goodIn_r _ [19, 2, 35, 36, 37, 38, 39, 40, 41, 42, 43, 44, 45, 46, 47, 48, 49, 50] (by decide +kernel) (by decide +kernel)
set_option maxRecDepth 20000 in
theorem gX6_used_X6_has : GoodIn wsX6_used (wsV RX6 122 RX6 yX6_has wsX6_has) := goodIn_app (goodIn_of _ (by decide +kernel)) ggX6_used_X6_has
set_option maxRecDepth 20000 in
theorem ggX6_used_X6_yearOf : GoodIn wsX6_used wsX6_yearOf := goodIn_r _ [23, 2, 24, 25, 26, 27, 28, 29, 30, 31, 32, 33, 6, 34, 35, 36, 37, 38, 39, 40, 41, 42, 43, 44, 45, 46, 47, 48, 49, 50] (by decide +kernel) (by decide +kernel)
set_option maxRecDepth 20000 in
theorem gX6_used_X6_yearOf : GoodIn wsX6_used (wsV RX6 146 RX6 yX6_yearOf wsX6_yearOf) := goodIn_app (goodIn_of _ (by decide +kernel)) ggX6_used_X6_yearOf
theorem dX6_used_0 : decode cX6_used 0 = .ok (.iload_n 1, 1) := by decide +kernel
theorem dX6_used_1 : decode cX6_used 1 = .ok (.invokestatic 115, 3) := by decide +kernel
theorem dX6_used_4 : decode cX6_used 4 = .ok (.ifCond .ne 10, 3) := by decide +kernel
theorem dX6_used_7 : decode cX6_used 7 = .ok (.aload_n 0, 1) := by decide +kernel
theorem dX6_used_8 : decode cX6_used 8 = .ok (.ldc 48, 2) := by decide +kernel
theorem dX6_used_10 : decode cX6_used 10 = .ok (.invokevirtual 49, 3) := by decide +kernel
theorem dX6_used_13 : decode cX6_used 13 = .ok (.ireturn, 1) := by decide +kernel
theorem dX6_used_14 : decode cX6_used 14 = .ok (.iconst 0, 1) := by decide +kernel
theorem dX6_used_15 : decode cX6_used 15 = .ok (.istore_n 3, 1) := by decide +kernel
theorem dX6_used_16 : decode cX6_used 16 = .ok (.iconst 0, 1) := by decide +kernel
theorem dX6_used_17 : decode cX6_used 17 = .ok (.istore 4, 2) := by decide +kernel
theorem dX6_used_19 : decode cX6_used 19 = .ok (.iconst 0, 1) := by decide +kernel
theorem dX6_used_20 : decode cX6_used 20 = .ok (.istore 5, 2) := by decide +kernel
theorem dX6_used_22 : decode cX6_used 22 = .ok (.iload 5, 2) := by decide +kernel
theorem dX6_used_24 : decode cX6_used 24 = .ok (.aload_n 0, 1) := by decide +kernel
theorem dX6_used_25 : decode cX6_used 25 = .ok (.getfield 9, 3) := by decide +kernel
theorem dX6_used_28 : decode cX6_used 28 = .ok (.iconst 0, 1) := by decide +kernel
theorem dX6_used_29 : decode cX6_used 29 = .ok (.iaload, 1) := by decide +kernel
theorem dX6_used_30 : decode cX6_used 30 = .ok (.if_icmp .ge 65, 3) := by decide +kernel
theorem dX6_used_33 : decode cX6_used 33 = .ok (.aload_n 0, 1) := by decide +kernel
theorem dX6_used_34 : decode cX6_used 34 = .ok (.iload 5, 2) := by decide +kernel
theorem dX6_used_36 : decode cX6_used 36 = .ok (.iload_n 1, 1) := by decide +kernel
theorem dX6_used_37 : decode cX6_used 37 = .ok (.invokevirtual 122, 3) := by decide +kernel
theorem dX6_used_40 : decode cX6_used 40 = .ok (.ifCond .ne 6, 3) := by decide +kernel
theorem dX6_used_43 : decode cX6_used 43 = .ok (.goto 46, 3) := by decide +kernel
theorem dX6_used_46 : decode cX6_used 46 = .ok (.aload_n 0, 1) := by decide +kernel
theorem dX6_used_47 : decode cX6_used 47 = .ok (.iload 5, 2) := by decide +kernel
theorem dX6_used_49 : decode cX6_used 49 = .ok (.iload_n 2, 1) := by decide +kernel
theorem dX6_used_50 : decode cX6_used 50 = .ok (.invokevirtual 146, 3) := by decide +kernel
theorem dX6_used_53 : decode cX6_used 53 = .ok (.istore 6, 2) := by decide +kernel
theorem dX6_used_55 : decode cX6_used 55 = .ok (.iload 4, 2) := by decide +kernel
theorem dX6_used_57 : decode cX6_used 57 = .ok (.ifCond .eq 22, 3) := by decide +kernel
theorem dX6_used_60 : decode cX6_used 60 = .ok (.iload_n 2, 1) := by decide +kernel
theorem dX6_used_61 : decode cX6_used 61 = .ok (.ifCond .eq 12, 3) := by decide +kernel
theorem dX6_used_64 : decode cX6_used 64 = .ok (.iload 6, 2) := by decide +kernel
theorem dX6_used_66 : decode cX6_used 66 = .ok (.iload_n 3, 1) := by decide +kernel
theorem dX6_used_67 : decode cX6_used 67 = .ok (.if_icmp .le 17, 3) := by decide +kernel
theorem dX6_used_70 : decode cX6_used 70 = .ok (.goto 9, 3) := by decide +kernel
theorem dX6_used_73 : decode cX6_used 73 = .ok (.iload 6, 2) := by decide +kernel
theorem dX6_used_75 : decode cX6_used 75 = .ok (.iload_n 3, 1) := by decide +kernel
theorem dX6_used_76 : decode cX6_used 76 = .ok (.if_icmp .ge 8, 3) := by decide +kernel
theorem dX6_used_79 : decode cX6_used 79 = .ok (.iload 6, 2) := by decide +kernel
theorem dX6_used_81 : decode cX6_used 81 = .ok (.goto 4, 3) := by decide +kernel
theorem dX6_used_84 : decode cX6_used 84 = .ok (.iload_n 3, 1) := by decide +kernel
theorem dX6_used_85 : decode cX6_used 85 = .ok (.istore_n 3, 1) := by decide +kernel
theorem dX6_used_86 : decode cX6_used 86 = .ok (.iconst 1, 1) := by decide +kernel
theorem dX6_used_87 : decode cX6_used 87 = .ok (.istore 4, 2) := by decide +kernel
theorem dX6_used_89 : decode cX6_used 89 = .ok (.iinc 5 1, 3) := by decide +kernel
theorem dX6_used_92 : decode cX6_used 92 = .ok (.goto (-70), 3) := by decide +kernel
theorem dX6_used_95 : decode cX6_used 95 = .ok (.iload 4, 2) := by decide +kernel
theorem dX6_used_97 : decode cX6_used 97 = .ok (.ifCond .eq 7, 3) := by decide +kernel
theorem dX6_used_100 : decode cX6_used 100 = .ok (.iload_n 3, 1) := by decide +kernel
theorem dX6_used_101 : decode cX6_used 101 = .ok (.goto 9, 3) := by decide +kernel
theorem dX6_used_104 : decode cX6_used 104 = .ok (.aload_n 0, 1) := by decide +kernel
theorem dX6_used_105 : decode cX6_used 105 = .ok (.ldc 83, 2) := by decide +kernel
theorem dX6_used_107 : decode cX6_used 107 = .ok (.invokevirtual 49, 3) := by decide +kernel
theorem dX6_used_110 : decode cX6_used 110 = .ok (.ireturn, 1) := by decide +kernel
theorem dX6_familyOf_0 : decode cX6_familyOf 0 = .ok (.iconst 1, 1) := by decide +kernel
theorem dX6_familyOf_1 : decode cX6_familyOf 1 = .ok (.iload_n 1, 1) := by decide +kernel
theorem dX6_familyOf_2 : decode cX6_familyOf 2 = .ok (.ishl, 1) := by decide +kernel
theorem dX6_familyOf_3 : decode cX6_familyOf 3 = .ok (.istore_n 3, 1) := by decide +kernel
theorem dX6_familyOf_4 : decode cX6_familyOf 4 = .ok (.iconst 0, 1) := by decide +kernel
theorem dX6_familyOf_5 : decode cX6_familyOf 5 = .ok (.istore 4, 2) := by decide +kernel
theorem dX6_familyOf_7 : decode cX6_familyOf 7 = .ok (.iload_n 3, 1) := by decide +kernel
theorem dX6_familyOf_8 : decode cX6_familyOf 8 = .ok (.iload 4, 2) := by decide +kernel
theorem dX6_familyOf_10 : decode cX6_familyOf 10 = .ok (.if_icmp .eq 138, 3) := by decide +kernel
theorem dX6_familyOf_13 : decode cX6_familyOf 13 = .ok (.iload_n 3, 1) := by decide +kernel
theorem dX6_familyOf_14 : decode cX6_familyOf 14 = .ok (.istore 4, 2) := by decide +kernel
theorem dX6_familyOf_16 : decode cX6_familyOf 16 = .ok (.iconst 0, 1) := by decide +kernel
theorem dX6_familyOf_17 : decode cX6_familyOf 17 = .ok (.istore 5, 2) := by decide +kernel
theorem dX6_familyOf_19 : decode cX6_familyOf 19 = .ok (.iload 5, 2) := by decide +kernel
theorem dX6_familyOf_21 : decode cX6_familyOf 21 = .ok (.aload_n 0, 1) := by decide +kernel
theorem dX6_familyOf_22 : decode cX6_familyOf 22 = .ok (.getfield 9, 3) := by decide +kernel
theorem dX6_familyOf_25 : decode cX6_familyOf 25 = .ok (.iconst 0, 1) := by decide +kernel
theorem dX6_familyOf_26 : decode cX6_familyOf 26 = .ok (.iaload, 1) := by decide +kernel
theorem dX6_familyOf_27 : decode cX6_familyOf 27 = .ok (.if_icmp .ge 118, 3) := by decide +kernel
theorem dX6_familyOf_30 : decode cX6_familyOf 30 = .ok (.iconst 0, 1) := by decide +kernel
theorem dX6_familyOf_31 : decode cX6_familyOf 31 = .ok (.istore 6, 2) := by decide +kernel
theorem dX6_familyOf_33 : decode cX6_familyOf 33 = .ok (.iload 6, 2) := by decide +kernel
theorem dX6_familyOf_35 : decode cX6_familyOf 35 = .ok (.aload_n 0, 1) := by decide +kernel
theorem dX6_familyOf_36 : decode cX6_familyOf 36 = .ok (.getfield 9, 3) := by decide +kernel
theorem dX6_familyOf_39 : decode cX6_familyOf 39 = .ok (.iconst 0, 1) := by decide +kernel
theorem dX6_familyOf_40 : decode cX6_familyOf 40 = .ok (.iaload, 1) := by decide +kernel
theorem dX6_familyOf_41 : decode cX6_familyOf 41 = .ok (.if_icmp .ge 98, 3) := by decide +kernel
theorem dX6_familyOf_44 : decode cX6_familyOf 44 = .ok (.aload_n 0, 1) := by decide +kernel
theorem dX6_familyOf_45 : decode cX6_familyOf 45 = .ok (.getfield 9, 3) := by decide +kernel
theorem dX6_familyOf_48 : decode cX6_familyOf 48 = .ok (.bipush 12, 2) := by decide +kernel
theorem dX6_familyOf_50 : decode cX6_familyOf 50 = .ok (.iload 5, 2) := by decide +kernel
theorem dX6_familyOf_52 : decode cX6_familyOf 52 = .ok (.iadd, 1) := by decide +kernel
theorem dX6_familyOf_53 : decode cX6_familyOf 53 = .ok (.iaload, 1) := by decide +kernel
theorem dX6_familyOf_54 : decode cX6_familyOf 54 = .ok (.aload_n 0, 1) := by decide +kernel
theorem dX6_familyOf_55 : decode cX6_familyOf 55 = .ok (.getfield 9, 3) := by decide +kernel
theorem dX6_familyOf_58 : decode cX6_familyOf 58 = .ok (.bipush 12, 2) := by decide +kernel
theorem dX6_familyOf_60 : decode cX6_familyOf 60 = .ok (.iload 6, 2) := by decide +kernel
theorem dX6_familyOf_62 : decode cX6_familyOf 62 = .ok (.iadd, 1) := by decide +kernel
theorem dX6_familyOf_63 : decode cX6_familyOf 63 = .ok (.iaload, 1) := by decide +kernel
theorem dX6_familyOf_64 : decode cX6_familyOf 64 = .ok (.isub, 1) := by decide +kernel
theorem dX6_familyOf_65 : decode cX6_familyOf 65 = .ok (.invokestatic 150, 3) := by decide +kernel
theorem dX6_familyOf_68 : decode cX6_familyOf 68 = .ok (.iload_n 2, 1) := by decide +kernel
theorem dX6_familyOf_69 : decode cX6_familyOf 69 = .ok (.if_icmp .gt 35, 3) := by decide +kernel
theorem dX6_familyOf_72 : decode cX6_familyOf 72 = .ok (.aload_n 0, 1) := by decide +kernel
theorem dX6_familyOf_73 : decode cX6_familyOf 73 = .ok (.getfield 9, 3) := by decide +kernel
theorem dX6_familyOf_76 : decode cX6_familyOf 76 = .ok (.bipush 22, 2) := by decide +kernel
theorem dX6_familyOf_78 : decode cX6_familyOf 78 = .ok (.iload 5, 2) := by decide +kernel
theorem dX6_familyOf_80 : decode cX6_familyOf 80 = .ok (.iadd, 1) := by decide +kernel
theorem dX6_familyOf_81 : decode cX6_familyOf 81 = .ok (.iaload, 1) := by decide +kernel
theorem dX6_familyOf_82 : decode cX6_familyOf 82 = .ok (.aload_n 0, 1) := by decide +kernel
theorem dX6_familyOf_83 : decode cX6_familyOf 83 = .ok (.getfield 9, 3) := by decide +kernel
theorem dX6_familyOf_86 : decode cX6_familyOf 86 = .ok (.bipush 22, 2) := by decide +kernel
theorem dX6_familyOf_88 : decode cX6_familyOf 88 = .ok (.iload 6, 2) := by decide +kernel
theorem dX6_familyOf_90 : decode cX6_familyOf 90 = .ok (.iadd, 1) := by decide +kernel
theorem dX6_familyOf_91 : decode cX6_familyOf 91 = .ok (.iaload, 1) := by decide +kernel
theorem dX6_familyOf_92 : decode cX6_familyOf 92 = .ok (.isub, 1) := by decide +kernel
theorem dX6_familyOf_93 : decode cX6_familyOf 93 = .ok (.invokestatic 150, 3) := by decide +kernel
theorem dX6_familyOf_96 : decode cX6_familyOf 96 = .ok (.iload_n 2, 1) := by decide +kernel
theorem dX6_familyOf_97 : decode cX6_familyOf 97 = .ok (.if_icmp .gt 7, 3) := by decide +kernel
theorem dX6_familyOf_100 : decode cX6_familyOf 100 = .ok (.iconst 1, 1) := by decide +kernel
theorem dX6_familyOf_101 : decode cX6_familyOf 101 = .ok (.goto 4, 3) := by decide +kernel
theorem dX6_familyOf_104 : decode cX6_familyOf 104 = .ok (.iconst 0, 1) := by decide +kernel
theorem dX6_familyOf_105 : decode cX6_familyOf 105 = .ok (.istore 7, 2) := by decide +kernel
theorem dX6_familyOf_107 : decode cX6_familyOf 107 = .ok (.iload_n 3, 1) := by decide +kernel
theorem dX6_familyOf_108 : decode cX6_familyOf 108 = .ok (.iload 7, 2) := by decide +kernel
theorem dX6_familyOf_110 : decode cX6_familyOf 110 = .ok (.ifCond .eq 20, 3) := by decide +kernel
theorem dX6_familyOf_113 : decode cX6_familyOf 113 = .ok (.iload_n 3, 1) := by decide +kernel
theorem dX6_familyOf_114 : decode cX6_familyOf 114 = .ok (.iload 5, 2) := by decide +kernel
theorem dX6_familyOf_116 : decode cX6_familyOf 116 = .ok (.ishr, 1) := by decide +kernel
theorem dX6_familyOf_117 : decode cX6_familyOf 117 = .ok (.iconst 1, 1) := by decide +kernel
theorem dX6_familyOf_118 : decode cX6_familyOf 118 = .ok (.iand, 1) := by decide +kernel
theorem dX6_familyOf_119 : decode cX6_familyOf 119 = .ok (.iconst 1, 1) := by decide +kernel
theorem dX6_familyOf_120 : decode cX6_familyOf 120 = .ok (.if_icmp .ne 10, 3) := by decide +kernel
theorem dX6_familyOf_123 : decode cX6_familyOf 123 = .ok (.iconst 1, 1) := by decide +kernel
theorem dX6_familyOf_124 : decode cX6_familyOf 124 = .ok (.iload 6, 2) := by decide +kernel
theorem dX6_familyOf_126 : decode cX6_familyOf 126 = .ok (.ishl, 1) := by decide +kernel
theorem dX6_familyOf_127 : decode cX6_familyOf 127 = .ok (.goto 4, 3) := by decide +kernel
theorem dX6_familyOf_130 : decode cX6_familyOf 130 = .ok (.iconst 0, 1) := by decide +kernel
theorem dX6_familyOf_131 : decode cX6_familyOf 131 = .ok (.ior, 1) := by decide +kernel
theorem dX6_familyOf_132 : decode cX6_familyOf 132 = .ok (.istore_n 3, 1) := by decide +kernel
theorem dX6_familyOf_133 : decode cX6_familyOf 133 = .ok (.iinc 6 1, 3) := by decide +kernel
theorem dX6_familyOf_136 : decode cX6_familyOf 136 = .ok (.goto (-103), 3) := by decide +kernel
theorem dX6_familyOf_139 : decode cX6_familyOf 139 = .ok (.iinc 5 1, 3) := by decide +kernel
theorem dX6_familyOf_142 : decode cX6_familyOf 142 = .ok (.goto (-123), 3) := by decide +kernel
theorem dX6_familyOf_145 : decode cX6_familyOf 145 = .ok (.goto (-138), 3) := by decide +kernel
theorem dX6_familyOf_148 : decode cX6_familyOf 148 = .ok (.iload_n 3, 1) := by decide +kernel
theorem dX6_familyOf_149 : decode cX6_familyOf 149 = .ok (.ireturn, 1) := by decide +kernel
theorem dX6_leastOf_0 : decode cX6_leastOf 0 = .ok (.iconst 0, 1) := by decide +kernel
theorem dX6_leastOf_1 : decode cX6_leastOf 1 = .ok (.istore_n 2, 1) := by decide +kernel
theorem dX6_leastOf_2 : decode cX6_leastOf 2 = .ok (.iload_n 1, 1) := by decide +kernel
theorem dX6_leastOf_3 : decode cX6_leastOf 3 = .ok (.iload_n 2, 1) := by decide +kernel
theorem dX6_leastOf_4 : decode cX6_leastOf 4 = .ok (.ishr, 1) := by decide +kernel
theorem dX6_leastOf_5 : decode cX6_leastOf 5 = .ok (.iconst 1, 1) := by decide +kernel
theorem dX6_leastOf_6 : decode cX6_leastOf 6 = .ok (.iand, 1) := by decide +kernel
theorem dX6_leastOf_7 : decode cX6_leastOf 7 = .ok (.ifCond .ne 9, 3) := by decide +kernel
theorem dX6_leastOf_10 : decode cX6_leastOf 10 = .ok (.iinc 2 1, 3) := by decide +kernel
theorem dX6_leastOf_13 : decode cX6_leastOf 13 = .ok (.goto (-11), 3) := by decide +kernel
theorem dX6_leastOf_16 : decode cX6_leastOf 16 = .ok (.iload_n 2, 1) := by decide +kernel
theorem dX6_leastOf_17 : decode cX6_leastOf 17 = .ok (.ireturn, 1) := by decide +kernel
set_option maxRecDepth 20000 in
theorem ggX6_family_X6_isGrave : GoodIn wsX6_family wsX6_isGrave := goodIn_r _ [6, 7, 8, 9, 5, 10, 28, 29, 30, 31, 32, 33, 34, 35, 36, 37, 38, 39, 40, 41, 42, 43] (by decide +kernel) (by decide +kernel)
set_option maxRecDepth 20000 in
theorem gX6_family_X6_isGrave : GoodIn wsX6_family (wsV RX6 54 RX6 yX6_isGrave wsX6_isGrave) := goodIn_app (goodIn_of _ (by decide +kernel)) ggX6_family_X6_isGrave
set_option maxRecDepth 20000 in
theorem ggX6_family_X6_within : GoodIn wsX6_family wsX6_within := goodIn_r _ [10] (by decide +kernel) (by decide +kernel)
set_option maxRecDepth 20000 in
theorem gX6_family_X6_within : GoodIn wsX6_family (va_wsS RX6 44 yX6_within wsX6_within) := goodIn_app (goodIn_of _ (by decide +kernel)) ggX6_family_X6_within
set_option maxRecDepth 20000 in
theorem ggX6_family_X6_finding : GoodIn wsX6_family wsX6_finding := goodIn_r _ [14, 15, 28, 29, 30, 31, 32, 33, 34, 35, 36, 37, 38, 39, 40, 41, 42, 43] (by decide +kernel) (by decide +kernel)
set_option maxRecDepth 20000 in
theorem gX6_family_X6_finding : GoodIn wsX6_family (wsV RX6 49 RX6 yX6_finding wsX6_finding) := goodIn_app (goodIn_of _ (by decide +kernel)) ggX6_family_X6_finding
set_option maxRecDepth 20000 in
theorem ggX6_family_X6_familyOf : GoodIn wsX6_family wsX6_familyOf := goodIn_r _ [19, 7, 20, 21, 22, 23, 28, 29, 30, 31, 32, 33, 34, 35, 36, 37, 38, 39, 40, 41, 42, 43] (by decide +kernel) (by decide +kernel)
set_option maxRecDepth 20000 in
theorem gX6_family_X6_familyOf : GoodIn wsX6_family (wsV RX6 153 RX6 yX6_familyOf wsX6_familyOf) := goodIn_app (goodIn_of _ (by decide +kernel)) ggX6_family_X6_familyOf
set_option maxRecDepth 20000 in
theorem ggX6_family_X6_leastOf : GoodIn wsX6_family wsX6_leastOf := goodIn_r _ [27] (by decide +kernel) (by decide +kernel)
set_option maxRecDepth 20000 in
theorem gX6_family_X6_leastOf : GoodIn wsX6_family (wsV RX6 156 RX6 yX6_leastOf wsX6_leastOf) := goodIn_app (goodIn_of _ (by decide +kernel)) ggX6_family_X6_leastOf
theorem dX6_family_0 : decode cX6_family 0 = .ok (.aload_n 0, 1) := by decide +kernel
theorem dX6_family_1 : decode cX6_family 1 = .ok (.iload_n 1, 1) := by decide +kernel
theorem dX6_family_2 : decode cX6_family 2 = .ok (.invokevirtual 54, 3) := by decide +kernel
theorem dX6_family_5 : decode cX6_family 5 = .ok (.ifCond .eq 13, 3) := by decide +kernel
theorem dX6_family_8 : decode cX6_family 8 = .ok (.iload_n 2, 1) := by decide +kernel
theorem dX6_family_9 : decode cX6_family 9 = .ok (.iconst 0, 1) := by decide +kernel
theorem dX6_family_10 : decode cX6_family 10 = .ok (.bipush 99, 2) := by decide +kernel
theorem dX6_family_12 : decode cX6_family 12 = .ok (.invokestatic 44, 3) := by decide +kernel
theorem dX6_family_15 : decode cX6_family 15 = .ok (.ifCond .ne 10, 3) := by decide +kernel
theorem dX6_family_18 : decode cX6_family 18 = .ok (.aload_n 0, 1) := by decide +kernel
theorem dX6_family_19 : decode cX6_family 19 = .ok (.ldc 48, 2) := by decide +kernel
theorem dX6_family_21 : decode cX6_family 21 = .ok (.invokevirtual 49, 3) := by decide +kernel
theorem dX6_family_24 : decode cX6_family 24 = .ok (.ireturn, 1) := by decide +kernel
theorem dX6_family_25 : decode cX6_family 25 = .ok (.aload_n 0, 1) := by decide +kernel
theorem dX6_family_26 : decode cX6_family 26 = .ok (.aload_n 0, 1) := by decide +kernel
theorem dX6_family_27 : decode cX6_family 27 = .ok (.iload_n 1, 1) := by decide +kernel
theorem dX6_family_28 : decode cX6_family 28 = .ok (.iload_n 2, 1) := by decide +kernel
theorem dX6_family_29 : decode cX6_family 29 = .ok (.invokevirtual 153, 3) := by decide +kernel
theorem dX6_family_32 : decode cX6_family 32 = .ok (.invokevirtual 156, 3) := by decide +kernel
theorem dX6_family_35 : decode cX6_family 35 = .ok (.ireturn, 1) := by decide +kernel
set_option maxRecDepth 20000 in
theorem ggX6_families_X6_within : GoodIn wsX6_families wsX6_within := goodIn_r _ [6] (by decide +kernel) (by decide +kernel)
set_option maxRecDepth 20000 in
theorem gX6_families_X6_within : GoodIn wsX6_families (va_wsS RX6 44 yX6_within wsX6_within) := goodIn_app (goodIn_of _ (by decide +kernel)) ggX6_families_X6_within
set_option maxRecDepth 20000 in
theorem ggX6_families_X6_finding : GoodIn wsX6_families wsX6_finding := goodIn_r _ [10, 11, 24, 25, 26, 27, 28, 29, 30, 31, 32, 33, 34, 35, 36, 37, 38, 39] (by decide +kernel) (by decide +kernel)
set_option maxRecDepth 20000 in
theorem gX6_families_X6_finding : GoodIn wsX6_families (wsV RX6 49 RX6 yX6_finding wsX6_finding) := goodIn_app (goodIn_of _ (by decide +kernel)) ggX6_families_X6_finding
set_option maxRecDepth 20000 in
theorem ggX6_families_X6_familyOf : GoodIn wsX6_families wsX6_familyOf := goodIn_r _ [15, 2, 16, 17, 18, 19, 24, 25, 26, 27, 28, 29, 30, 31, 32, 33, 34, 35, 36, 37, 38, 39] (by decide +kernel) (by decide +kernel)
set_option maxRecDepth 20000 in
theorem gX6_families_X6_familyOf : GoodIn wsX6_families (wsV RX6 153 RX6 yX6_familyOf wsX6_familyOf) := goodIn_app (goodIn_of _ (by decide +kernel)) ggX6_families_X6_familyOf
set_option maxRecDepth 20000 in
theorem ggX6_families_X6_leastOf : GoodIn wsX6_families wsX6_leastOf := goodIn_r _ [23] (by decide +kernel) (by decide +kernel)
set_option maxRecDepth 20000 in
theorem gX6_families_X6_leastOf : GoodIn wsX6_families (wsV RX6 156 RX6 yX6_leastOf wsX6_leastOf) := goodIn_app (goodIn_of _ (by decide +kernel)) ggX6_families_X6_leastOf
theorem dX6_families_0 : decode cX6_families 0 = .ok (.iload_n 1, 1) := by decide +kernel
theorem dX6_families_1 : decode cX6_families 1 = .ok (.iconst 0, 1) := by decide +kernel
theorem dX6_families_2 : decode cX6_families 2 = .ok (.bipush 99, 2) := by decide +kernel
theorem dX6_families_4 : decode cX6_families 4 = .ok (.invokestatic 44, 3) := by decide +kernel
theorem dX6_families_7 : decode cX6_families 7 = .ok (.ifCond .ne 10, 3) := by decide +kernel
theorem dX6_families_10 : decode cX6_families 10 = .ok (.aload_n 0, 1) := by decide +kernel
theorem dX6_families_11 : decode cX6_families 11 = .ok (.ldc 48, 2) := by decide +kernel
theorem dX6_families_13 : decode cX6_families 13 = .ok (.invokevirtual 49, 3) := by decide +kernel
theorem dX6_families_16 : decode cX6_families 16 = .ok (.ireturn, 1) := by decide +kernel
theorem dX6_families_17 : decode cX6_families 17 = .ok (.iconst 0, 1) := by decide +kernel
theorem dX6_families_18 : decode cX6_families 18 = .ok (.istore_n 2, 1) := by decide +kernel
theorem dX6_families_19 : decode cX6_families 19 = .ok (.iconst 0, 1) := by decide +kernel
theorem dX6_families_20 : decode cX6_families 20 = .ok (.istore_n 3, 1) := by decide +kernel
theorem dX6_families_21 : decode cX6_families 21 = .ok (.iload_n 3, 1) := by decide +kernel
theorem dX6_families_22 : decode cX6_families 22 = .ok (.aload_n 0, 1) := by decide +kernel
theorem dX6_families_23 : decode cX6_families 23 = .ok (.getfield 9, 3) := by decide +kernel
theorem dX6_families_26 : decode cX6_families 26 = .ok (.iconst 0, 1) := by decide +kernel
theorem dX6_families_27 : decode cX6_families 27 = .ok (.iaload, 1) := by decide +kernel
theorem dX6_families_28 : decode cX6_families 28 = .ok (.if_icmp .ge 31, 3) := by decide +kernel
theorem dX6_families_31 : decode cX6_families 31 = .ok (.iload_n 2, 1) := by decide +kernel
theorem dX6_families_32 : decode cX6_families 32 = .ok (.aload_n 0, 1) := by decide +kernel
theorem dX6_families_33 : decode cX6_families 33 = .ok (.aload_n 0, 1) := by decide +kernel
theorem dX6_families_34 : decode cX6_families 34 = .ok (.iload_n 3, 1) := by decide +kernel
theorem dX6_families_35 : decode cX6_families 35 = .ok (.iload_n 1, 1) := by decide +kernel
theorem dX6_families_36 : decode cX6_families 36 = .ok (.invokevirtual 153, 3) := by decide +kernel
theorem dX6_families_39 : decode cX6_families 39 = .ok (.invokevirtual 156, 3) := by decide +kernel
theorem dX6_families_42 : decode cX6_families 42 = .ok (.iload_n 3, 1) := by decide +kernel
theorem dX6_families_43 : decode cX6_families 43 = .ok (.if_icmp .ne 7, 3) := by decide +kernel
theorem dX6_families_46 : decode cX6_families 46 = .ok (.iconst 1, 1) := by decide +kernel
theorem dX6_families_47 : decode cX6_families 47 = .ok (.goto 4, 3) := by decide +kernel
theorem dX6_families_50 : decode cX6_families 50 = .ok (.iconst 0, 1) := by decide +kernel
theorem dX6_families_51 : decode cX6_families 51 = .ok (.iadd, 1) := by decide +kernel
theorem dX6_families_52 : decode cX6_families 52 = .ok (.istore_n 2, 1) := by decide +kernel
theorem dX6_families_53 : decode cX6_families 53 = .ok (.iinc 3 1, 3) := by decide +kernel
theorem dX6_families_56 : decode cX6_families 56 = .ok (.goto (-35), 3) := by decide +kernel
theorem dX6_families_59 : decode cX6_families 59 = .ok (.iload_n 2, 1) := by decide +kernel
theorem dX6_families_60 : decode cX6_families 60 = .ok (.ireturn, 1) := by decide +kernel
set_option maxRecDepth 20000 in
theorem ggX6_both_X6_many : GoodIn wsX6_both wsX6_many := goodIn_r _ [5] (by decide +kernel) (by decide +kernel)
set_option maxRecDepth 20000 in
theorem gX6_both_X6_many : GoodIn wsX6_both (va_wsS RX6 63 yX6_many wsX6_many) := goodIn_app (goodIn_of _ (by decide +kernel)) ggX6_both_X6_many
theorem dX6_both_0 : decode cX6_both 0 = .ok (.aload_n 0, 1) := by decide +kernel
theorem dX6_both_1 : decode cX6_both 1 = .ok (.getfield 9, 3) := by decide +kernel
theorem dX6_both_4 : decode cX6_both 4 = .ok (.bipush 32, 2) := by decide +kernel
theorem dX6_both_6 : decode cX6_both 6 = .ok (.iload_n 1, 1) := by decide +kernel
theorem dX6_both_7 : decode cX6_both 7 = .ok (.iadd, 1) := by decide +kernel
theorem dX6_both_8 : decode cX6_both 8 = .ok (.iaload, 1) := by decide +kernel
theorem dX6_both_9 : decode cX6_both 9 = .ok (.aload_n 0, 1) := by decide +kernel
theorem dX6_both_10 : decode cX6_both 10 = .ok (.getfield 9, 3) := by decide +kernel
theorem dX6_both_13 : decode cX6_both 13 = .ok (.bipush 32, 2) := by decide +kernel
theorem dX6_both_15 : decode cX6_both 15 = .ok (.iload_n 2, 1) := by decide +kernel
theorem dX6_both_16 : decode cX6_both 16 = .ok (.iadd, 1) := by decide +kernel
theorem dX6_both_17 : decode cX6_both 17 = .ok (.iaload, 1) := by decide +kernel
theorem dX6_both_18 : decode cX6_both 18 = .ok (.iand, 1) := by decide +kernel
theorem dX6_both_19 : decode cX6_both 19 = .ok (.invokestatic 63, 3) := by decide +kernel
theorem dX6_both_22 : decode cX6_both 22 = .ok (.ireturn, 1) := by decide +kernel
set_option maxRecDepth 20000 in
theorem ggX6_either_X6_many : GoodIn wsX6_either wsX6_many := goodIn_r _ [5] (by decide +kernel) (by decide +kernel)
set_option maxRecDepth 20000 in
theorem gX6_either_X6_many : GoodIn wsX6_either (va_wsS RX6 63 yX6_many wsX6_many) := goodIn_app (goodIn_of _ (by decide +kernel)) ggX6_either_X6_many
theorem dX6_either_0 : decode cX6_either 0 = .ok (.aload_n 0, 1) := by decide +kernel
theorem dX6_either_1 : decode cX6_either 1 = .ok (.getfield 9, 3) := by decide +kernel
theorem dX6_either_4 : decode cX6_either 4 = .ok (.bipush 32, 2) := by decide +kernel
theorem dX6_either_6 : decode cX6_either 6 = .ok (.iload_n 1, 1) := by decide +kernel
theorem dX6_either_7 : decode cX6_either 7 = .ok (.iadd, 1) := by decide +kernel
theorem dX6_either_8 : decode cX6_either 8 = .ok (.iaload, 1) := by decide +kernel
theorem dX6_either_9 : decode cX6_either 9 = .ok (.aload_n 0, 1) := by decide +kernel
theorem dX6_either_10 : decode cX6_either 10 = .ok (.getfield 9, 3) := by decide +kernel
theorem dX6_either_13 : decode cX6_either 13 = .ok (.bipush 32, 2) := by decide +kernel
theorem dX6_either_15 : decode cX6_either 15 = .ok (.iload_n 2, 1) := by decide +kernel
theorem dX6_either_16 : decode cX6_either 16 = .ok (.iadd, 1) := by decide +kernel
theorem dX6_either_17 : decode cX6_either 17 = .ok (.iaload, 1) := by decide +kernel
theorem dX6_either_18 : decode cX6_either 18 = .ok (.ior, 1) := by decide +kernel
theorem dX6_either_19 : decode cX6_either 19 = .ok (.invokestatic 63, 3) := by decide +kernel
theorem dX6_either_22 : decode cX6_either 22 = .ok (.istore_n 3, 1) := by decide +kernel
theorem dX6_either_23 : decode cX6_either 23 = .ok (.iload_n 3, 1) := by decide +kernel
theorem dX6_either_24 : decode cX6_either 24 = .ok (.ifCond .ne 7, 3) := by decide +kernel
theorem dX6_either_27 : decode cX6_either 27 = .ok (.iconst 1, 1) := by decide +kernel
theorem dX6_either_28 : decode cX6_either 28 = .ok (.goto 4, 3) := by decide +kernel
theorem dX6_either_31 : decode cX6_either 31 = .ok (.iload_n 3, 1) := by decide +kernel
theorem dX6_either_32 : decode cX6_either 32 = .ok (.ireturn, 1) := by decide +kernel
set_option maxRecDepth 20000 in
theorem ggX6_like_X6_isGrave : GoodIn wsX6_like wsX6_isGrave := goodIn_r _ [6, 7, 8, 9, 5, 10, 27, 28, 29, 30, 31, 32, 33, 34, 35, 36, 37, 38, 39, 40, 41, 42] (by decide +kernel) (by decide +kernel)
set_option maxRecDepth 20000 in
theorem gX6_like_X6_isGrave : GoodIn wsX6_like (wsV RX6 54 RX6 yX6_isGrave wsX6_isGrave) := goodIn_app (goodIn_of _ (by decide +kernel)) ggX6_like_X6_isGrave
set_option maxRecDepth 20000 in
theorem ggX6_like_X6_finding : GoodIn wsX6_like wsX6_finding := goodIn_r _ [14, 15, 27, 28, 29, 30, 31, 32, 33, 34, 35, 36, 37, 38, 39, 40, 41, 42] (by decide +kernel) (by decide +kernel)
set_option maxRecDepth 20000 in
theorem gX6_like_X6_finding : GoodIn wsX6_like (wsV RX6 49 RX6 yX6_finding wsX6_finding) := goodIn_app (goodIn_of _ (by decide +kernel)) ggX6_like_X6_finding
set_option maxRecDepth 20000 in
theorem ggX6_like_X6_both : GoodIn wsX6_like wsX6_both := goodIn_r _ [19, 7, 20, 21, 5, 22, 27, 28, 29, 30, 31, 32, 33, 34, 35, 36, 37, 38, 39, 40, 41, 42] (by decide +kernel) (by decide +kernel)
set_option maxRecDepth 20000 in
theorem gX6_like_X6_both : GoodIn wsX6_like (wsV RX6 159 RX6 yX6_both wsX6_both) := goodIn_app (goodIn_of _ (by decide +kernel)) ggX6_like_X6_both
set_option maxRecDepth 20000 in
theorem ggX6_like_X6_either : GoodIn wsX6_like wsX6_either := goodIn_r _ [26, 7, 20, 21, 5, 22, 27, 28, 29, 30, 31, 32, 33, 34, 35, 36, 37, 38, 39, 40, 41, 42] (by decide +kernel) (by decide +kernel)
set_option maxRecDepth 20000 in
theorem gX6_like_X6_either : GoodIn wsX6_like (wsV RX6 162 RX6 yX6_either wsX6_either) := goodIn_app (goodIn_of _ (by decide +kernel)) ggX6_like_X6_either
theorem dX6_like_0 : decode cX6_like 0 = .ok (.aload_n 0, 1) := by decide +kernel
theorem dX6_like_1 : decode cX6_like 1 = .ok (.iload_n 1, 1) := by decide +kernel
theorem dX6_like_2 : decode cX6_like 2 = .ok (.invokevirtual 54, 3) := by decide +kernel
theorem dX6_like_5 : decode cX6_like 5 = .ok (.ifCond .eq 11, 3) := by decide +kernel
theorem dX6_like_8 : decode cX6_like 8 = .ok (.aload_n 0, 1) := by decide +kernel
theorem dX6_like_9 : decode cX6_like 9 = .ok (.iload_n 2, 1) := by decide +kernel
theorem dX6_like_10 : decode cX6_like 10 = .ok (.invokevirtual 54, 3) := by decide +kernel
theorem dX6_like_13 : decode cX6_like 13 = .ok (.ifCond .ne 10, 3) := by decide +kernel
theorem dX6_like_16 : decode cX6_like 16 = .ok (.aload_n 0, 1) := by decide +kernel
theorem dX6_like_17 : decode cX6_like 17 = .ok (.ldc 48, 2) := by decide +kernel
theorem dX6_like_19 : decode cX6_like 19 = .ok (.invokevirtual 49, 3) := by decide +kernel
theorem dX6_like_22 : decode cX6_like 22 = .ok (.ireturn, 1) := by decide +kernel
theorem dX6_like_23 : decode cX6_like 23 = .ok (.aload_n 0, 1) := by decide +kernel
theorem dX6_like_24 : decode cX6_like 24 = .ok (.iload_n 1, 1) := by decide +kernel
theorem dX6_like_25 : decode cX6_like 25 = .ok (.iload_n 2, 1) := by decide +kernel
theorem dX6_like_26 : decode cX6_like 26 = .ok (.invokevirtual 159, 3) := by decide +kernel
theorem dX6_like_29 : decode cX6_like 29 = .ok (.istore 4, 2) := by decide +kernel
theorem dX6_like_31 : decode cX6_like 31 = .ok (.aload_n 0, 1) := by decide +kernel
theorem dX6_like_32 : decode cX6_like 32 = .ok (.iload_n 1, 1) := by decide +kernel
theorem dX6_like_33 : decode cX6_like 33 = .ok (.iload_n 2, 1) := by decide +kernel
theorem dX6_like_34 : decode cX6_like 34 = .ok (.invokevirtual 162, 3) := by decide +kernel
theorem dX6_like_37 : decode cX6_like 37 = .ok (.istore 5, 2) := by decide +kernel
theorem dX6_like_39 : decode cX6_like 39 = .ok (.iload 5, 2) := by decide +kernel
theorem dX6_like_41 : decode cX6_like 41 = .ok (.istore 6, 2) := by decide +kernel
theorem dX6_like_43 : decode cX6_like 43 = .ok (.iload 4, 2) := by decide +kernel
theorem dX6_like_45 : decode cX6_like 45 = .ok (.iload 6, 2) := by decide +kernel
theorem dX6_like_47 : decode cX6_like 47 = .ok (.irem, 1) := by decide +kernel
theorem dX6_like_48 : decode cX6_like 48 = .ok (.ifCond .ne 11, 3) := by decide +kernel
theorem dX6_like_51 : decode cX6_like 51 = .ok (.iload 5, 2) := by decide +kernel
theorem dX6_like_53 : decode cX6_like 53 = .ok (.iload 6, 2) := by decide +kernel
theorem dX6_like_55 : decode cX6_like 55 = .ok (.irem, 1) := by decide +kernel
theorem dX6_like_56 : decode cX6_like 56 = .ok (.ifCond .eq 9, 3) := by decide +kernel
theorem dX6_like_59 : decode cX6_like 59 = .ok (.iinc 6 (-1), 3) := by decide +kernel
theorem dX6_like_62 : decode cX6_like 62 = .ok (.goto (-19), 3) := by decide +kernel
theorem dX6_like_65 : decode cX6_like 65 = .ok (.iload_n 3, 1) := by decide +kernel
theorem dX6_like_66 : decode cX6_like 66 = .ok (.ifCond .eq 11, 3) := by decide +kernel
theorem dX6_like_69 : decode cX6_like 69 = .ok (.iload 5, 2) := by decide +kernel
theorem dX6_like_71 : decode cX6_like 71 = .ok (.iload 6, 2) := by decide +kernel
theorem dX6_like_73 : decode cX6_like 73 = .ok (.idiv, 1) := by decide +kernel
theorem dX6_like_74 : decode cX6_like 74 = .ok (.goto 8, 3) := by decide +kernel
theorem dX6_like_77 : decode cX6_like 77 = .ok (.iload 4, 2) := by decide +kernel
theorem dX6_like_79 : decode cX6_like 79 = .ok (.iload 6, 2) := by decide +kernel
theorem dX6_like_81 : decode cX6_like 81 = .ok (.idiv, 1) := by decide +kernel
theorem dX6_like_82 : decode cX6_like 82 = .ok (.ireturn, 1) := by decide +kernel
set_option maxRecDepth 20000 in
theorem ggX6_nearest_X6_isGrave : GoodIn wsX6_nearest wsX6_isGrave := goodIn_r _ [8, 2, 9, 10, 7, 11, 28, 29, 30, 31, 32, 33, 34, 35, 36, 37, 38, 39, 40, 41, 42, 43] (by decide +kernel) (by decide +kernel)
set_option maxRecDepth 20000 in
theorem gX6_nearest_X6_isGrave : GoodIn wsX6_nearest (wsV RX6 54 RX6 yX6_isGrave wsX6_isGrave) := goodIn_app (goodIn_of _ (by decide +kernel)) ggX6_nearest_X6_isGrave
set_option maxRecDepth 20000 in
theorem ggX6_nearest_X6_finding : GoodIn wsX6_nearest wsX6_finding := goodIn_r _ [15, 16, 28, 29, 30, 31, 32, 33, 34, 35, 36, 37, 38, 39, 40, 41, 42, 43] (by decide +kernel) (by decide +kernel)
set_option maxRecDepth 20000 in
theorem gX6_nearest_X6_finding : GoodIn wsX6_nearest (wsV RX6 49 RX6 yX6_finding wsX6_finding) := goodIn_app (goodIn_of _ (by decide +kernel)) ggX6_nearest_X6_finding
set_option maxRecDepth 20000 in
theorem ggX6_nearest_X6_both : GoodIn wsX6_nearest wsX6_both := goodIn_r _ [20, 2, 21, 22, 7, 23, 28, 29, 30, 31, 32, 33, 34, 35, 36, 37, 38, 39, 40, 41, 42, 43] (by decide +kernel) (by decide +kernel)
set_option maxRecDepth 20000 in
theorem gX6_nearest_X6_both : GoodIn wsX6_nearest (wsV RX6 159 RX6 yX6_both wsX6_both) := goodIn_app (goodIn_of _ (by decide +kernel)) ggX6_nearest_X6_both
set_option maxRecDepth 20000 in
theorem ggX6_nearest_X6_either : GoodIn wsX6_nearest wsX6_either := goodIn_r _ [27, 2, 21, 22, 7, 23, 28, 29, 30, 31, 32, 33, 34, 35, 36, 37, 38, 39, 40, 41, 42, 43] (by decide +kernel) (by decide +kernel)
set_option maxRecDepth 20000 in
theorem gX6_nearest_X6_either : GoodIn wsX6_nearest (wsV RX6 162 RX6 yX6_either wsX6_either) := goodIn_app (goodIn_of _ (by decide +kernel)) ggX6_nearest_X6_either
theorem dX6_nearest_0 : decode cX6_nearest 0 = .ok (.aload_n 0, 1) := by decide +kernel
theorem dX6_nearest_1 : decode cX6_nearest 1 = .ok (.iload_n 1, 1) := by decide +kernel
theorem dX6_nearest_2 : decode cX6_nearest 2 = .ok (.invokevirtual 54, 3) := by decide +kernel
theorem dX6_nearest_5 : decode cX6_nearest 5 = .ok (.ifCond .ne 10, 3) := by decide +kernel
theorem dX6_nearest_8 : decode cX6_nearest 8 = .ok (.aload_n 0, 1) := by decide +kernel
theorem dX6_nearest_9 : decode cX6_nearest 9 = .ok (.ldc 48, 2) := by decide +kernel
theorem dX6_nearest_11 : decode cX6_nearest 11 = .ok (.invokevirtual 49, 3) := by decide +kernel
theorem dX6_nearest_14 : decode cX6_nearest 14 = .ok (.ireturn, 1) := by decide +kernel
theorem dX6_nearest_15 : decode cX6_nearest 15 = .ok (.iconst (-1), 1) := by decide +kernel
theorem dX6_nearest_16 : decode cX6_nearest 16 = .ok (.istore_n 2, 1) := by decide +kernel
theorem dX6_nearest_17 : decode cX6_nearest 17 = .ok (.iconst 0, 1) := by decide +kernel
theorem dX6_nearest_18 : decode cX6_nearest 18 = .ok (.istore_n 3, 1) := by decide +kernel
theorem dX6_nearest_19 : decode cX6_nearest 19 = .ok (.iload_n 3, 1) := by decide +kernel
theorem dX6_nearest_20 : decode cX6_nearest 20 = .ok (.aload_n 0, 1) := by decide +kernel
theorem dX6_nearest_21 : decode cX6_nearest 21 = .ok (.getfield 9, 3) := by decide +kernel
theorem dX6_nearest_24 : decode cX6_nearest 24 = .ok (.iconst 0, 1) := by decide +kernel
theorem dX6_nearest_25 : decode cX6_nearest 25 = .ok (.iaload, 1) := by decide +kernel
theorem dX6_nearest_26 : decode cX6_nearest 26 = .ok (.if_icmp .ge 49, 3) := by decide +kernel
theorem dX6_nearest_29 : decode cX6_nearest 29 = .ok (.iload_n 3, 1) := by decide +kernel
theorem dX6_nearest_30 : decode cX6_nearest 30 = .ok (.iload_n 1, 1) := by decide +kernel
theorem dX6_nearest_31 : decode cX6_nearest 31 = .ok (.if_icmp .eq 38, 3) := by decide +kernel
theorem dX6_nearest_34 : decode cX6_nearest 34 = .ok (.iload_n 2, 1) := by decide +kernel
theorem dX6_nearest_35 : decode cX6_nearest 35 = .ok (.ifCond .lt 32, 3) := by decide +kernel
theorem dX6_nearest_38 : decode cX6_nearest 38 = .ok (.aload_n 0, 1) := by decide +kernel
theorem dX6_nearest_39 : decode cX6_nearest 39 = .ok (.iload_n 1, 1) := by decide +kernel
theorem dX6_nearest_40 : decode cX6_nearest 40 = .ok (.iload_n 3, 1) := by decide +kernel
theorem dX6_nearest_41 : decode cX6_nearest 41 = .ok (.invokevirtual 159, 3) := by decide +kernel
theorem dX6_nearest_44 : decode cX6_nearest 44 = .ok (.aload_n 0, 1) := by decide +kernel
theorem dX6_nearest_45 : decode cX6_nearest 45 = .ok (.iload_n 1, 1) := by decide +kernel
theorem dX6_nearest_46 : decode cX6_nearest 46 = .ok (.iload_n 2, 1) := by decide +kernel
theorem dX6_nearest_47 : decode cX6_nearest 47 = .ok (.invokevirtual 162, 3) := by decide +kernel
theorem dX6_nearest_50 : decode cX6_nearest 50 = .ok (.imul, 1) := by decide +kernel
theorem dX6_nearest_51 : decode cX6_nearest 51 = .ok (.aload_n 0, 1) := by decide +kernel
theorem dX6_nearest_52 : decode cX6_nearest 52 = .ok (.iload_n 1, 1) := by decide +kernel
theorem dX6_nearest_53 : decode cX6_nearest 53 = .ok (.iload_n 2, 1) := by decide +kernel
theorem dX6_nearest_54 : decode cX6_nearest 54 = .ok (.invokevirtual 159, 3) := by decide +kernel
theorem dX6_nearest_57 : decode cX6_nearest 57 = .ok (.aload_n 0, 1) := by decide +kernel
theorem dX6_nearest_58 : decode cX6_nearest 58 = .ok (.iload_n 1, 1) := by decide +kernel
theorem dX6_nearest_59 : decode cX6_nearest 59 = .ok (.iload_n 3, 1) := by decide +kernel
theorem dX6_nearest_60 : decode cX6_nearest 60 = .ok (.invokevirtual 162, 3) := by decide +kernel
theorem dX6_nearest_63 : decode cX6_nearest 63 = .ok (.imul, 1) := by decide +kernel
theorem dX6_nearest_64 : decode cX6_nearest 64 = .ok (.if_icmp .le 5, 3) := by decide +kernel
theorem dX6_nearest_67 : decode cX6_nearest 67 = .ok (.iload_n 3, 1) := by decide +kernel
theorem dX6_nearest_68 : decode cX6_nearest 68 = .ok (.istore_n 2, 1) := by decide +kernel
theorem dX6_nearest_69 : decode cX6_nearest 69 = .ok (.iinc 3 1, 3) := by decide +kernel
theorem dX6_nearest_72 : decode cX6_nearest 72 = .ok (.goto (-53), 3) := by decide +kernel
theorem dX6_nearest_75 : decode cX6_nearest 75 = .ok (.iload_n 2, 1) := by decide +kernel
theorem dX6_nearest_76 : decode cX6_nearest 76 = .ok (.ifCond .ge 12, 3) := by decide +kernel
theorem dX6_nearest_79 : decode cX6_nearest 79 = .ok (.aload_n 0, 1) := by decide +kernel
theorem dX6_nearest_80 : decode cX6_nearest 80 = .ok (.ldc 83, 2) := by decide +kernel
theorem dX6_nearest_82 : decode cX6_nearest 82 = .ok (.invokevirtual 49, 3) := by decide +kernel
theorem dX6_nearest_85 : decode cX6_nearest 85 = .ok (.goto 4, 3) := by decide +kernel
theorem dX6_nearest_88 : decode cX6_nearest 88 = .ok (.iload_n 2, 1) := by decide +kernel
theorem dX6_nearest_89 : decode cX6_nearest 89 = .ok (.ireturn, 1) := by decide +kernel
set_option maxRecDepth 20000 in
theorem ggX6_isMark_X6_within : GoodIn wsX6_isMark wsX6_within := goodIn_r _ [4] (by decide +kernel) (by decide +kernel)
set_option maxRecDepth 20000 in
theorem gX6_isMark_X6_within : GoodIn wsX6_isMark (va_wsS RX6 44 yX6_within wsX6_within) := goodIn_app (goodIn_of _ (by decide +kernel)) ggX6_isMark_X6_within
theorem dX6_isMark_0 : decode cX6_isMark 0 = .ok (.iload_n 0, 1) := by decide +kernel
theorem dX6_isMark_1 : decode cX6_isMark 1 = .ok (.iconst 0, 1) := by decide +kernel
theorem dX6_isMark_2 : decode cX6_isMark 2 = .ok (.iconst 5, 1) := by decide +kernel
theorem dX6_isMark_3 : decode cX6_isMark 3 = .ok (.invokestatic 44, 3) := by decide +kernel
theorem dX6_isMark_6 : decode cX6_isMark 6 = .ok (.ireturn, 1) := by decide +kernel
set_option maxRecDepth 20000 in
theorem ggX6_mark_X6_isGrave : GoodIn wsX6_mark wsX6_isGrave := goodIn_r _ [7, 2, 8, 9, 6, 10, 19, 20, 21, 22, 23, 24, 25, 26, 27, 28, 29, 30, 31, 32, 33, 34] (by decide +kernel) (by decide +kernel)
set_option maxRecDepth 20000 in
theorem gX6_mark_X6_isGrave : GoodIn wsX6_mark (wsV RX6 54 RX6 yX6_isGrave wsX6_isGrave) := goodIn_app (goodIn_of _ (by decide +kernel)) ggX6_mark_X6_isGrave
set_option maxRecDepth 20000 in
theorem ggX6_mark_X6_isMark : GoodIn wsX6_mark wsX6_isMark := goodIn_r _ [13, 8, 9, 6, 10] (by decide +kernel) (by decide +kernel)
set_option maxRecDepth 20000 in
theorem gX6_mark_X6_isMark : GoodIn wsX6_mark (va_wsS RX6 165 yX6_isMark wsX6_isMark) := goodIn_app (goodIn_of _ (by decide +kernel)) ggX6_mark_X6_isMark
set_option maxRecDepth 20000 in
theorem ggX6_mark_X6_finding : GoodIn wsX6_mark wsX6_finding := goodIn_r _ [17, 18, 19, 20, 21, 22, 23, 24, 25, 26, 27, 28, 29, 30, 31, 32, 33, 34] (by decide +kernel) (by decide +kernel)
set_option maxRecDepth 20000 in
theorem gX6_mark_X6_finding : GoodIn wsX6_mark (wsV RX6 49 RX6 yX6_finding wsX6_finding) := goodIn_app (goodIn_of _ (by decide +kernel)) ggX6_mark_X6_finding
theorem dX6_mark_0 : decode cX6_mark 0 = .ok (.aload_n 0, 1) := by decide +kernel
theorem dX6_mark_1 : decode cX6_mark 1 = .ok (.iload_n 1, 1) := by decide +kernel
theorem dX6_mark_2 : decode cX6_mark 2 = .ok (.invokevirtual 54, 3) := by decide +kernel
theorem dX6_mark_5 : decode cX6_mark 5 = .ok (.ifCond .eq 10, 3) := by decide +kernel
theorem dX6_mark_8 : decode cX6_mark 8 = .ok (.iload_n 2, 1) := by decide +kernel
theorem dX6_mark_9 : decode cX6_mark 9 = .ok (.invokestatic 165, 3) := by decide +kernel
theorem dX6_mark_12 : decode cX6_mark 12 = .ok (.ifCond .ne 10, 3) := by decide +kernel
theorem dX6_mark_15 : decode cX6_mark 15 = .ok (.aload_n 0, 1) := by decide +kernel
theorem dX6_mark_16 : decode cX6_mark 16 = .ok (.ldc 48, 2) := by decide +kernel
theorem dX6_mark_18 : decode cX6_mark 18 = .ok (.invokevirtual 49, 3) := by decide +kernel
theorem dX6_mark_21 : decode cX6_mark 21 = .ok (.ireturn, 1) := by decide +kernel
theorem dX6_mark_22 : decode cX6_mark 22 = .ok (.iconst 1, 1) := by decide +kernel
theorem dX6_mark_23 : decode cX6_mark 23 = .ok (.iload_n 2, 1) := by decide +kernel
theorem dX6_mark_24 : decode cX6_mark 24 = .ok (.ishl, 1) := by decide +kernel
theorem dX6_mark_25 : decode cX6_mark 25 = .ok (.istore 4, 2) := by decide +kernel
theorem dX6_mark_27 : decode cX6_mark 27 = .ok (.aload_n 0, 1) := by decide +kernel
theorem dX6_mark_28 : decode cX6_mark 28 = .ok (.getfield 9, 3) := by decide +kernel
theorem dX6_mark_31 : decode cX6_mark 31 = .ok (.bipush 72, 2) := by decide +kernel
theorem dX6_mark_33 : decode cX6_mark 33 = .ok (.iload_n 1, 1) := by decide +kernel
theorem dX6_mark_34 : decode cX6_mark 34 = .ok (.iadd, 1) := by decide +kernel
theorem dX6_mark_35 : decode cX6_mark 35 = .ok (.iaload, 1) := by decide +kernel
theorem dX6_mark_36 : decode cX6_mark 36 = .ok (.iload 4, 2) := by decide +kernel
theorem dX6_mark_38 : decode cX6_mark 38 = .ok (.iand, 1) := by decide +kernel
theorem dX6_mark_39 : decode cX6_mark 39 = .ok (.ifCond .eq 7, 3) := by decide +kernel
theorem dX6_mark_42 : decode cX6_mark 42 = .ok (.iconst 1, 1) := by decide +kernel
theorem dX6_mark_43 : decode cX6_mark 43 = .ok (.goto 4, 3) := by decide +kernel
theorem dX6_mark_46 : decode cX6_mark 46 = .ok (.iconst 0, 1) := by decide +kernel
theorem dX6_mark_47 : decode cX6_mark 47 = .ok (.istore 5, 2) := by decide +kernel
theorem dX6_mark_49 : decode cX6_mark 49 = .ok (.aload_n 0, 1) := by decide +kernel
theorem dX6_mark_50 : decode cX6_mark 50 = .ok (.getfield 9, 3) := by decide +kernel
theorem dX6_mark_53 : decode cX6_mark 53 = .ok (.bipush 72, 2) := by decide +kernel
theorem dX6_mark_55 : decode cX6_mark 55 = .ok (.iload_n 1, 1) := by decide +kernel
theorem dX6_mark_56 : decode cX6_mark 56 = .ok (.iadd, 1) := by decide +kernel
theorem dX6_mark_57 : decode cX6_mark 57 = .ok (.dup2, 1) := by decide +kernel
theorem dX6_mark_58 : decode cX6_mark 58 = .ok (.iaload, 1) := by decide +kernel
theorem dX6_mark_59 : decode cX6_mark 59 = .ok (.iload 4, 2) := by decide +kernel
theorem dX6_mark_61 : decode cX6_mark 61 = .ok (.ior, 1) := by decide +kernel
theorem dX6_mark_62 : decode cX6_mark 62 = .ok (.iastore, 1) := by decide +kernel
theorem dX6_mark_63 : decode cX6_mark 63 = .ok (.aload_n 0, 1) := by decide +kernel
theorem dX6_mark_64 : decode cX6_mark 64 = .ok (.getfield 9, 3) := by decide +kernel
theorem dX6_mark_67 : decode cX6_mark 67 = .ok (.bipush 82, 2) := by decide +kernel
theorem dX6_mark_69 : decode cX6_mark 69 = .ok (.iload_n 1, 1) := by decide +kernel
theorem dX6_mark_70 : decode cX6_mark 70 = .ok (.iadd, 1) := by decide +kernel
theorem dX6_mark_71 : decode cX6_mark 71 = .ok (.iload_n 3, 1) := by decide +kernel
theorem dX6_mark_72 : decode cX6_mark 72 = .ok (.ifCond .eq 18, 3) := by decide +kernel
theorem dX6_mark_75 : decode cX6_mark 75 = .ok (.aload_n 0, 1) := by decide +kernel
theorem dX6_mark_76 : decode cX6_mark 76 = .ok (.getfield 9, 3) := by decide +kernel
theorem dX6_mark_79 : decode cX6_mark 79 = .ok (.bipush 82, 2) := by decide +kernel
theorem dX6_mark_81 : decode cX6_mark 81 = .ok (.iload_n 1, 1) := by decide +kernel
theorem dX6_mark_82 : decode cX6_mark 82 = .ok (.iadd, 1) := by decide +kernel
theorem dX6_mark_83 : decode cX6_mark 83 = .ok (.iaload, 1) := by decide +kernel
theorem dX6_mark_84 : decode cX6_mark 84 = .ok (.iload 4, 2) := by decide +kernel
theorem dX6_mark_86 : decode cX6_mark 86 = .ok (.ior, 1) := by decide +kernel
theorem dX6_mark_87 : decode cX6_mark 87 = .ok (.goto 17, 3) := by decide +kernel
theorem dX6_mark_90 : decode cX6_mark 90 = .ok (.aload_n 0, 1) := by decide +kernel
theorem dX6_mark_91 : decode cX6_mark 91 = .ok (.getfield 9, 3) := by decide +kernel
theorem dX6_mark_94 : decode cX6_mark 94 = .ok (.bipush 82, 2) := by decide +kernel
theorem dX6_mark_96 : decode cX6_mark 96 = .ok (.iload_n 1, 1) := by decide +kernel
theorem dX6_mark_97 : decode cX6_mark 97 = .ok (.iadd, 1) := by decide +kernel
theorem dX6_mark_98 : decode cX6_mark 98 = .ok (.iaload, 1) := by decide +kernel
theorem dX6_mark_99 : decode cX6_mark 99 = .ok (.iload 4, 2) := by decide +kernel
theorem dX6_mark_101 : decode cX6_mark 101 = .ok (.iconst (-1), 1) := by decide +kernel
theorem dX6_mark_102 : decode cX6_mark 102 = .ok (.ixor, 1) := by decide +kernel
theorem dX6_mark_103 : decode cX6_mark 103 = .ok (.iand, 1) := by decide +kernel
theorem dX6_mark_104 : decode cX6_mark 104 = .ok (.iastore, 1) := by decide +kernel
theorem dX6_mark_105 : decode cX6_mark 105 = .ok (.iload 5, 2) := by decide +kernel
theorem dX6_mark_107 : decode cX6_mark 107 = .ok (.ifCond .eq 7, 3) := by decide +kernel
theorem dX6_mark_110 : decode cX6_mark 110 = .ok (.iconst 0, 1) := by decide +kernel
theorem dX6_mark_111 : decode cX6_mark 111 = .ok (.goto 4, 3) := by decide +kernel
theorem dX6_mark_114 : decode cX6_mark 114 = .ok (.iconst 1, 1) := by decide +kernel
theorem dX6_mark_115 : decode cX6_mark 115 = .ok (.ireturn, 1) := by decide +kernel
set_option maxRecDepth 20000 in
theorem ggX6_weigh_X6_isMark : GoodIn wsX6_weigh wsX6_isMark := goodIn_r _ [6, 7, 8, 5, 9] (by decide +kernel) (by decide +kernel)
set_option maxRecDepth 20000 in
theorem gX6_weigh_X6_isMark : GoodIn wsX6_weigh (va_wsS RX6 165 yX6_isMark wsX6_isMark) := goodIn_app (goodIn_of _ (by decide +kernel)) ggX6_weigh_X6_isMark
set_option maxRecDepth 20000 in
theorem ggX6_weigh_X6_within : GoodIn wsX6_weigh wsX6_within := goodIn_r _ [9] (by decide +kernel) (by decide +kernel)
set_option maxRecDepth 20000 in
theorem gX6_weigh_X6_within : GoodIn wsX6_weigh (va_wsS RX6 44 yX6_within wsX6_within) := goodIn_app (goodIn_of _ (by decide +kernel)) ggX6_weigh_X6_within
set_option maxRecDepth 20000 in
theorem ggX6_weigh_X6_finding : GoodIn wsX6_weigh wsX6_finding := goodIn_r _ [13, 14, 15, 16, 17, 18, 19, 20, 21, 22, 23, 24, 25, 26, 27, 28, 29, 30] (by decide +kernel) (by decide +kernel)
set_option maxRecDepth 20000 in
theorem gX6_weigh_X6_finding : GoodIn wsX6_weigh (wsV RX6 49 RX6 yX6_finding wsX6_finding) := goodIn_app (goodIn_of _ (by decide +kernel)) ggX6_weigh_X6_finding
theorem dX6_weigh_0 : decode cX6_weigh 0 = .ok (.iload_n 1, 1) := by decide +kernel
theorem dX6_weigh_1 : decode cX6_weigh 1 = .ok (.invokestatic 165, 3) := by decide +kernel
theorem dX6_weigh_4 : decode cX6_weigh 4 = .ok (.ifCond .eq 13, 3) := by decide +kernel
theorem dX6_weigh_7 : decode cX6_weigh 7 = .ok (.iload_n 3, 1) := by decide +kernel
theorem dX6_weigh_8 : decode cX6_weigh 8 = .ok (.iconst 1, 1) := by decide +kernel
theorem dX6_weigh_9 : decode cX6_weigh 9 = .ok (.bipush 20, 2) := by decide +kernel
theorem dX6_weigh_11 : decode cX6_weigh 11 = .ok (.invokestatic 44, 3) := by decide +kernel
theorem dX6_weigh_14 : decode cX6_weigh 14 = .ok (.ifCond .ne 10, 3) := by decide +kernel
theorem dX6_weigh_17 : decode cX6_weigh 17 = .ok (.aload_n 0, 1) := by decide +kernel
theorem dX6_weigh_18 : decode cX6_weigh 18 = .ok (.ldc 48, 2) := by decide +kernel
theorem dX6_weigh_20 : decode cX6_weigh 20 = .ok (.invokevirtual 49, 3) := by decide +kernel
theorem dX6_weigh_23 : decode cX6_weigh 23 = .ok (.ireturn, 1) := by decide +kernel
theorem dX6_weigh_24 : decode cX6_weigh 24 = .ok (.iload_n 2, 1) := by decide +kernel
theorem dX6_weigh_25 : decode cX6_weigh 25 = .ok (.ifCond .eq 8, 3) := by decide +kernel
theorem dX6_weigh_28 : decode cX6_weigh 28 = .ok (.bipush 92, 2) := by decide +kernel
theorem dX6_weigh_30 : decode cX6_weigh 30 = .ok (.goto 5, 3) := by decide +kernel
theorem dX6_weigh_33 : decode cX6_weigh 33 = .ok (.bipush 98, 2) := by decide +kernel
theorem dX6_weigh_35 : decode cX6_weigh 35 = .ok (.iload_n 1, 1) := by decide +kernel
theorem dX6_weigh_36 : decode cX6_weigh 36 = .ok (.iadd, 1) := by decide +kernel
theorem dX6_weigh_37 : decode cX6_weigh 37 = .ok (.istore 4, 2) := by decide +kernel
theorem dX6_weigh_39 : decode cX6_weigh 39 = .ok (.aload_n 0, 1) := by decide +kernel
theorem dX6_weigh_40 : decode cX6_weigh 40 = .ok (.getfield 9, 3) := by decide +kernel
theorem dX6_weigh_43 : decode cX6_weigh 43 = .ok (.iload 4, 2) := by decide +kernel
theorem dX6_weigh_45 : decode cX6_weigh 45 = .ok (.iaload, 1) := by decide +kernel
theorem dX6_weigh_46 : decode cX6_weigh 46 = .ok (.istore 5, 2) := by decide +kernel
theorem dX6_weigh_48 : decode cX6_weigh 48 = .ok (.aload_n 0, 1) := by decide +kernel
theorem dX6_weigh_49 : decode cX6_weigh 49 = .ok (.getfield 9, 3) := by decide +kernel
theorem dX6_weigh_52 : decode cX6_weigh 52 = .ok (.iload 4, 2) := by decide +kernel
theorem dX6_weigh_54 : decode cX6_weigh 54 = .ok (.iload_n 3, 1) := by decide +kernel
theorem dX6_weigh_55 : decode cX6_weigh 55 = .ok (.iastore, 1) := by decide +kernel
theorem dX6_weigh_56 : decode cX6_weigh 56 = .ok (.iload 5, 2) := by decide +kernel
theorem dX6_weigh_58 : decode cX6_weigh 58 = .ok (.ireturn, 1) := by decide +kernel
theorem dX6_shareOf_0 : decode cX6_shareOf 0 = .ok (.lconst 1, 1) := by decide +kernel
theorem dX6_shareOf_1 : decode cX6_shareOf 1 = .ok (.lstore_n 3, 1) := by decide +kernel
theorem dX6_shareOf_2 : decode cX6_shareOf 2 = .ok (.iconst 0, 1) := by decide +kernel
theorem dX6_shareOf_3 : decode cX6_shareOf 3 = .ok (.istore 5, 2) := by decide +kernel
theorem dX6_shareOf_5 : decode cX6_shareOf 5 = .ok (.iload 5, 2) := by decide +kernel
theorem dX6_shareOf_7 : decode cX6_shareOf 7 = .ok (.bipush 6, 2) := by decide +kernel
theorem dX6_shareOf_9 : decode cX6_shareOf 9 = .ok (.if_icmp .ge 96, 3) := by decide +kernel
theorem dX6_shareOf_12 : decode cX6_shareOf 12 = .ok (.aload_n 0, 1) := by decide +kernel
theorem dX6_shareOf_13 : decode cX6_shareOf 13 = .ok (.getfield 9, 3) := by decide +kernel
theorem dX6_shareOf_16 : decode cX6_shareOf 16 = .ok (.bipush 72, 2) := by decide +kernel
theorem dX6_shareOf_18 : decode cX6_shareOf 18 = .ok (.iload_n 1, 1) := by decide +kernel
theorem dX6_shareOf_19 : decode cX6_shareOf 19 = .ok (.iadd, 1) := by decide +kernel
theorem dX6_shareOf_20 : decode cX6_shareOf 20 = .ok (.iaload, 1) := by decide +kernel
theorem dX6_shareOf_21 : decode cX6_shareOf 21 = .ok (.iload 5, 2) := by decide +kernel
theorem dX6_shareOf_23 : decode cX6_shareOf 23 = .ok (.ishr, 1) := by decide +kernel
theorem dX6_shareOf_24 : decode cX6_shareOf 24 = .ok (.iconst 1, 1) := by decide +kernel
theorem dX6_shareOf_25 : decode cX6_shareOf 25 = .ok (.iand, 1) := by decide +kernel
theorem dX6_shareOf_26 : decode cX6_shareOf 26 = .ok (.ifCond .ne 6, 3) := by decide +kernel
theorem dX6_shareOf_29 : decode cX6_shareOf 29 = .ok (.goto 70, 3) := by decide +kernel
theorem dX6_shareOf_32 : decode cX6_shareOf 32 = .ok (.aload_n 0, 1) := by decide +kernel
theorem dX6_shareOf_33 : decode cX6_shareOf 33 = .ok (.getfield 9, 3) := by decide +kernel
theorem dX6_shareOf_36 : decode cX6_shareOf 36 = .ok (.bipush 82, 2) := by decide +kernel
theorem dX6_shareOf_38 : decode cX6_shareOf 38 = .ok (.iload_n 1, 1) := by decide +kernel
theorem dX6_shareOf_39 : decode cX6_shareOf 39 = .ok (.iadd, 1) := by decide +kernel
theorem dX6_shareOf_40 : decode cX6_shareOf 40 = .ok (.iaload, 1) := by decide +kernel
theorem dX6_shareOf_41 : decode cX6_shareOf 41 = .ok (.iload 5, 2) := by decide +kernel
theorem dX6_shareOf_43 : decode cX6_shareOf 43 = .ok (.ishr, 1) := by decide +kernel
theorem dX6_shareOf_44 : decode cX6_shareOf 44 = .ok (.iconst 1, 1) := by decide +kernel
theorem dX6_shareOf_45 : decode cX6_shareOf 45 = .ok (.iand, 1) := by decide +kernel
theorem dX6_shareOf_46 : decode cX6_shareOf 46 = .ok (.iconst 1, 1) := by decide +kernel
theorem dX6_shareOf_47 : decode cX6_shareOf 47 = .ok (.if_icmp .ne 7, 3) := by decide +kernel
theorem dX6_shareOf_50 : decode cX6_shareOf 50 = .ok (.iconst 1, 1) := by decide +kernel
theorem dX6_shareOf_51 : decode cX6_shareOf 51 = .ok (.goto 4, 3) := by decide +kernel
theorem dX6_shareOf_54 : decode cX6_shareOf 54 = .ok (.iconst 0, 1) := by decide +kernel
theorem dX6_shareOf_55 : decode cX6_shareOf 55 = .ok (.istore 6, 2) := by decide +kernel
theorem dX6_shareOf_57 : decode cX6_shareOf 57 = .ok (.aload_n 0, 1) := by decide +kernel
theorem dX6_shareOf_58 : decode cX6_shareOf 58 = .ok (.getfield 9, 3) := by decide +kernel
theorem dX6_shareOf_61 : decode cX6_shareOf 61 = .ok (.iload_n 2, 1) := by decide +kernel
theorem dX6_shareOf_62 : decode cX6_shareOf 62 = .ok (.ifCond .eq 8, 3) := by decide +kernel
theorem dX6_shareOf_65 : decode cX6_shareOf 65 = .ok (.bipush 92, 2) := by decide +kernel
theorem dX6_shareOf_67 : decode cX6_shareOf 67 = .ok (.goto 5, 3) := by decide +kernel
theorem dX6_shareOf_70 : decode cX6_shareOf 70 = .ok (.bipush 98, 2) := by decide +kernel
theorem dX6_shareOf_72 : decode cX6_shareOf 72 = .ok (.iload 5, 2) := by decide +kernel
theorem dX6_shareOf_74 : decode cX6_shareOf 74 = .ok (.iadd, 1) := by decide +kernel
theorem dX6_shareOf_75 : decode cX6_shareOf 75 = .ok (.iaload, 1) := by decide +kernel
theorem dX6_shareOf_76 : decode cX6_shareOf 76 = .ok (.istore 7, 2) := by decide +kernel
theorem dX6_shareOf_78 : decode cX6_shareOf 78 = .ok (.lload_n 3, 1) := by decide +kernel
theorem dX6_shareOf_79 : decode cX6_shareOf 79 = .ok (.iload 6, 2) := by decide +kernel
theorem dX6_shareOf_81 : decode cX6_shareOf 81 = .ok (.iload_n 2, 1) := by decide +kernel
theorem dX6_shareOf_82 : decode cX6_shareOf 82 = .ok (.if_icmp .ne 9, 3) := by decide +kernel
theorem dX6_shareOf_85 : decode cX6_shareOf 85 = .ok (.iload 7, 2) := by decide +kernel
theorem dX6_shareOf_87 : decode cX6_shareOf 87 = .ok (.i2l, 1) := by decide +kernel
theorem dX6_shareOf_88 : decode cX6_shareOf 88 = .ok (.goto 9, 3) := by decide +kernel
theorem dX6_shareOf_91 : decode cX6_shareOf 91 = .ok (.bipush 21, 2) := by decide +kernel
theorem dX6_shareOf_93 : decode cX6_shareOf 93 = .ok (.iload 7, 2) := by decide +kernel
theorem dX6_shareOf_95 : decode cX6_shareOf 95 = .ok (.isub, 1) := by decide +kernel
theorem dX6_shareOf_96 : decode cX6_shareOf 96 = .ok (.i2l, 1) := by decide +kernel
theorem dX6_shareOf_97 : decode cX6_shareOf 97 = .ok (.lmul, 1) := by decide +kernel
theorem dX6_shareOf_98 : decode cX6_shareOf 98 = .ok (.lstore_n 3, 1) := by decide +kernel
theorem dX6_shareOf_99 : decode cX6_shareOf 99 = .ok (.iinc 5 1, 3) := by decide +kernel
theorem dX6_shareOf_102 : decode cX6_shareOf 102 = .ok (.goto (-97), 3) := by decide +kernel
theorem dX6_shareOf_105 : decode cX6_shareOf 105 = .ok (.lload_n 3, 1) := by decide +kernel
theorem dX6_shareOf_106 : decode cX6_shareOf 106 = .ok (.lreturn, 1) := by decide +kernel
set_option maxRecDepth 20000 in
theorem ggX6_share_X6_isGrave : GoodIn wsX6_share wsX6_isGrave := goodIn_r _ [8, 2, 9, 10, 7, 11, 21, 22, 23, 24, 25, 26, 27, 28, 29, 30, 31, 32, 33, 34, 35, 36] (by decide +kernel) (by decide +kernel)
set_option maxRecDepth 20000 in
theorem gX6_share_X6_isGrave : GoodIn wsX6_share (wsV RX6 54 RX6 yX6_isGrave wsX6_isGrave) := goodIn_app (goodIn_of _ (by decide +kernel)) ggX6_share_X6_isGrave
set_option maxRecDepth 20000 in
theorem ggX6_share_X6_finding : GoodIn wsX6_share wsX6_finding := goodIn_r _ [15, 16, 21, 22, 23, 24, 25, 26, 27, 28, 29, 30, 31, 32, 33, 34, 35, 36] (by decide +kernel) (by decide +kernel)
set_option maxRecDepth 20000 in
theorem gX6_share_X6_finding : GoodIn wsX6_share (wsV RX6 49 RX6 yX6_finding wsX6_finding) := goodIn_app (goodIn_of _ (by decide +kernel)) ggX6_share_X6_finding
set_option maxRecDepth 20000 in
theorem ggX6_share_X6_shareOf : GoodIn wsX6_share wsX6_shareOf := goodIn_r _ [20, 2, 21, 22, 23, 24, 25, 26, 27, 28, 29, 30, 31, 32, 33, 34, 35, 36] (by decide +kernel) (by decide +kernel)
set_option maxRecDepth 20000 in
theorem gX6_share_X6_shareOf : GoodIn wsX6_share (wsV RX6 168 RX6 yX6_shareOf wsX6_shareOf) := goodIn_app (goodIn_of _ (by decide +kernel)) ggX6_share_X6_shareOf
theorem dX6_share_0 : decode cX6_share 0 = .ok (.aload_n 0, 1) := by decide +kernel
theorem dX6_share_1 : decode cX6_share 1 = .ok (.iload_n 1, 1) := by decide +kernel
theorem dX6_share_2 : decode cX6_share 2 = .ok (.invokevirtual 54, 3) := by decide +kernel
theorem dX6_share_5 : decode cX6_share 5 = .ok (.ifCond .ne 11, 3) := by decide +kernel
theorem dX6_share_8 : decode cX6_share 8 = .ok (.aload_n 0, 1) := by decide +kernel
theorem dX6_share_9 : decode cX6_share 9 = .ok (.ldc 48, 2) := by decide +kernel
theorem dX6_share_11 : decode cX6_share 11 = .ok (.invokevirtual 49, 3) := by decide +kernel
theorem dX6_share_14 : decode cX6_share 14 = .ok (.i2l, 1) := by decide +kernel
theorem dX6_share_15 : decode cX6_share 15 = .ok (.lreturn, 1) := by decide +kernel
theorem dX6_share_16 : decode cX6_share 16 = .ok (.aload_n 0, 1) := by decide +kernel
theorem dX6_share_17 : decode cX6_share 17 = .ok (.getfield 9, 3) := by decide +kernel
theorem dX6_share_20 : decode cX6_share 20 = .ok (.iconst 2, 1) := by decide +kernel
theorem dX6_share_21 : decode cX6_share 21 = .ok (.iload_n 1, 1) := by decide +kernel
theorem dX6_share_22 : decode cX6_share 22 = .ok (.iadd, 1) := by decide +kernel
theorem dX6_share_23 : decode cX6_share 23 = .ok (.iaload, 1) := by decide +kernel
theorem dX6_share_24 : decode cX6_share 24 = .ok (.iconst 2, 1) := by decide +kernel
theorem dX6_share_25 : decode cX6_share 25 = .ok (.if_icmp .ne 13, 3) := by decide +kernel
theorem dX6_share_28 : decode cX6_share 28 = .ok (.aload_n 0, 1) := by decide +kernel
theorem dX6_share_29 : decode cX6_share 29 = .ok (.ldc 58, 2) := by decide +kernel
theorem dX6_share_31 : decode cX6_share 31 = .ok (.invokevirtual 49, 3) := by decide +kernel
theorem dX6_share_34 : decode cX6_share 34 = .ok (.i2l, 1) := by decide +kernel
theorem dX6_share_35 : decode cX6_share 35 = .ok (.goto 9, 3) := by decide +kernel
theorem dX6_share_38 : decode cX6_share 38 = .ok (.aload_n 0, 1) := by decide +kernel
theorem dX6_share_39 : decode cX6_share 39 = .ok (.iload_n 1, 1) := by decide +kernel
theorem dX6_share_40 : decode cX6_share 40 = .ok (.iload_n 2, 1) := by decide +kernel
theorem dX6_share_41 : decode cX6_share 41 = .ok (.invokevirtual 168, 3) := by decide +kernel
theorem dX6_share_44 : decode cX6_share 44 = .ok (.lreturn, 1) := by decide +kernel
set_option maxRecDepth 20000 in
theorem ggX6_people_X6_within : GoodIn wsX6_people wsX6_within := goodIn_r _ [6] (by decide +kernel) (by decide +kernel)
set_option maxRecDepth 20000 in
theorem gX6_people_X6_within : GoodIn wsX6_people (va_wsS RX6 44 yX6_within wsX6_within) := goodIn_app (goodIn_of _ (by decide +kernel)) ggX6_people_X6_within
set_option maxRecDepth 20000 in
theorem ggX6_people_X6_finding : GoodIn wsX6_people wsX6_finding := goodIn_r _ [10, 11, 16, 17, 18, 19, 20, 21, 22, 23, 24, 25, 26, 27, 28, 29, 30, 31] (by decide +kernel) (by decide +kernel)
set_option maxRecDepth 20000 in
theorem gX6_people_X6_finding : GoodIn wsX6_people (wsV RX6 49 RX6 yX6_finding wsX6_finding) := goodIn_app (goodIn_of _ (by decide +kernel)) ggX6_people_X6_finding
set_option maxRecDepth 20000 in
theorem ggX6_people_X6_shareOf : GoodIn wsX6_people wsX6_shareOf := goodIn_r _ [15, 2, 16, 17, 18, 19, 20, 21, 22, 23, 24, 25, 26, 27, 28, 29, 30, 31] (by decide +kernel) (by decide +kernel)
set_option maxRecDepth 20000 in
theorem gX6_people_X6_shareOf : GoodIn wsX6_people (wsV RX6 168 RX6 yX6_shareOf wsX6_shareOf) := goodIn_app (goodIn_of _ (by decide +kernel)) ggX6_people_X6_shareOf
theorem dX6_people_0 : decode cX6_people 0 = .ok (.iload_n 1, 1) := by decide +kernel
theorem dX6_people_1 : decode cX6_people 1 = .ok (.iconst 0, 1) := by decide +kernel
theorem dX6_people_2 : decode cX6_people 2 = .ok (.iconst 2, 1) := by decide +kernel
theorem dX6_people_3 : decode cX6_people 3 = .ok (.invokestatic 44, 3) := by decide +kernel
theorem dX6_people_6 : decode cX6_people 6 = .ok (.ifCond .ne 10, 3) := by decide +kernel
theorem dX6_people_9 : decode cX6_people 9 = .ok (.aload_n 0, 1) := by decide +kernel
theorem dX6_people_10 : decode cX6_people 10 = .ok (.ldc 48, 2) := by decide +kernel
theorem dX6_people_12 : decode cX6_people 12 = .ok (.invokevirtual 49, 3) := by decide +kernel
theorem dX6_people_15 : decode cX6_people 15 = .ok (.ireturn, 1) := by decide +kernel
theorem dX6_people_16 : decode cX6_people 16 = .ok (.iconst 0, 1) := by decide +kernel
theorem dX6_people_17 : decode cX6_people 17 = .ok (.istore_n 2, 1) := by decide +kernel
theorem dX6_people_18 : decode cX6_people 18 = .ok (.iconst 0, 1) := by decide +kernel
theorem dX6_people_19 : decode cX6_people 19 = .ok (.istore_n 3, 1) := by decide +kernel
theorem dX6_people_20 : decode cX6_people 20 = .ok (.iload_n 3, 1) := by decide +kernel
theorem dX6_people_21 : decode cX6_people 21 = .ok (.aload_n 0, 1) := by decide +kernel
theorem dX6_people_22 : decode cX6_people 22 = .ok (.getfield 9, 3) := by decide +kernel
theorem dX6_people_25 : decode cX6_people 25 = .ok (.iconst 0, 1) := by decide +kernel
theorem dX6_people_26 : decode cX6_people 26 = .ok (.iaload, 1) := by decide +kernel
theorem dX6_people_27 : decode cX6_people 27 = .ok (.if_icmp .ge 78, 3) := by decide +kernel
theorem dX6_people_30 : decode cX6_people 30 = .ok (.aload_n 0, 1) := by decide +kernel
theorem dX6_people_31 : decode cX6_people 31 = .ok (.iload_n 3, 1) := by decide +kernel
theorem dX6_people_32 : decode cX6_people 32 = .ok (.iconst 1, 1) := by decide +kernel
theorem dX6_people_33 : decode cX6_people 33 = .ok (.invokevirtual 168, 3) := by decide +kernel
theorem dX6_people_36 : decode cX6_people 36 = .ok (.lstore 4, 2) := by decide +kernel
theorem dX6_people_38 : decode cX6_people 38 = .ok (.aload_n 0, 1) := by decide +kernel
theorem dX6_people_39 : decode cX6_people 39 = .ok (.iload_n 3, 1) := by decide +kernel
theorem dX6_people_40 : decode cX6_people 40 = .ok (.iconst 0, 1) := by decide +kernel
theorem dX6_people_41 : decode cX6_people 41 = .ok (.invokevirtual 168, 3) := by decide +kernel
theorem dX6_people_44 : decode cX6_people 44 = .ok (.lstore 6, 2) := by decide +kernel
theorem dX6_people_46 : decode cX6_people 46 = .ok (.aload_n 0, 1) := by decide +kernel
theorem dX6_people_47 : decode cX6_people 47 = .ok (.getfield 9, 3) := by decide +kernel
theorem dX6_people_50 : decode cX6_people 50 = .ok (.iconst 2, 1) := by decide +kernel
theorem dX6_people_51 : decode cX6_people 51 = .ok (.iload_n 3, 1) := by decide +kernel
theorem dX6_people_52 : decode cX6_people 52 = .ok (.iadd, 1) := by decide +kernel
theorem dX6_people_53 : decode cX6_people 53 = .ok (.iaload, 1) := by decide +kernel
theorem dX6_people_54 : decode cX6_people 54 = .ok (.iconst 2, 1) := by decide +kernel
theorem dX6_people_55 : decode cX6_people 55 = .ok (.if_icmp .eq 11, 3) := by decide +kernel
theorem dX6_people_58 : decode cX6_people 58 = .ok (.lload 4, 2) := by decide +kernel
theorem dX6_people_60 : decode cX6_people 60 = .ok (.lload 6, 2) := by decide +kernel
theorem dX6_people_62 : decode cX6_people 62 = .ok (.lcmp, 1) := by decide +kernel
theorem dX6_people_63 : decode cX6_people 63 = .ok (.ifCond .ne 7, 3) := by decide +kernel
theorem dX6_people_66 : decode cX6_people 66 = .ok (.iconst 2, 1) := by decide +kernel
theorem dX6_people_67 : decode cX6_people 67 = .ok (.goto 16, 3) := by decide +kernel
theorem dX6_people_70 : decode cX6_people 70 = .ok (.lload 4, 2) := by decide +kernel
theorem dX6_people_72 : decode cX6_people 72 = .ok (.lload 6, 2) := by decide +kernel
theorem dX6_people_74 : decode cX6_people 74 = .ok (.lcmp, 1) := by decide +kernel
theorem dX6_people_75 : decode cX6_people 75 = .ok (.ifCond .le 7, 3) := by decide +kernel
theorem dX6_people_78 : decode cX6_people 78 = .ok (.iconst 0, 1) := by decide +kernel
theorem dX6_people_79 : decode cX6_people 79 = .ok (.goto 4, 3) := by decide +kernel
theorem dX6_people_82 : decode cX6_people 82 = .ok (.iconst 1, 1) := by decide +kernel
theorem dX6_people_83 : decode cX6_people 83 = .ok (.istore 8, 2) := by decide +kernel
theorem dX6_people_85 : decode cX6_people 85 = .ok (.iload_n 2, 1) := by decide +kernel
theorem dX6_people_86 : decode cX6_people 86 = .ok (.iload 8, 2) := by decide +kernel
theorem dX6_people_88 : decode cX6_people 88 = .ok (.iload_n 1, 1) := by decide +kernel
theorem dX6_people_89 : decode cX6_people 89 = .ok (.if_icmp .ne 7, 3) := by decide +kernel
theorem dX6_people_92 : decode cX6_people 92 = .ok (.iconst 1, 1) := by decide +kernel
theorem dX6_people_93 : decode cX6_people 93 = .ok (.goto 4, 3) := by decide +kernel
theorem dX6_people_96 : decode cX6_people 96 = .ok (.iconst 0, 1) := by decide +kernel
theorem dX6_people_97 : decode cX6_people 97 = .ok (.iadd, 1) := by decide +kernel
theorem dX6_people_98 : decode cX6_people 98 = .ok (.istore_n 2, 1) := by decide +kernel
theorem dX6_people_99 : decode cX6_people 99 = .ok (.iinc 3 1, 3) := by decide +kernel
theorem dX6_people_102 : decode cX6_people 102 = .ok (.goto (-82), 3) := by decide +kernel
theorem dX6_people_105 : decode cX6_people 105 = .ok (.iload_n 2, 1) := by decide +kernel
theorem dX6_people_106 : decode cX6_people 106 = .ok (.ireturn, 1) := by decide +kernel
theorem dX6_keep_0 : decode cX6_keep 0 = .ok (.iconst 0, 1) := by decide +kernel
theorem dX6_keep_1 : decode cX6_keep 1 = .ok (.istore_n 1, 1) := by decide +kernel
theorem dX6_keep_2 : decode cX6_keep 2 = .ok (.iload_n 1, 1) := by decide +kernel
theorem dX6_keep_3 : decode cX6_keep 3 = .ok (.bipush 116, 2) := by decide +kernel
theorem dX6_keep_5 : decode cX6_keep 5 = .ok (.if_icmp .ge 21, 3) := by decide +kernel
theorem dX6_keep_8 : decode cX6_keep 8 = .ok (.aload_n 0, 1) := by decide +kernel
theorem dX6_keep_9 : decode cX6_keep 9 = .ok (.getfield 13, 3) := by decide +kernel
theorem dX6_keep_12 : decode cX6_keep 12 = .ok (.iload_n 1, 1) := by decide +kernel
theorem dX6_keep_13 : decode cX6_keep 13 = .ok (.aload_n 0, 1) := by decide +kernel
theorem dX6_keep_14 : decode cX6_keep 14 = .ok (.getfield 9, 3) := by decide +kernel
theorem dX6_keep_17 : decode cX6_keep 17 = .ok (.iload_n 1, 1) := by decide +kernel
theorem dX6_keep_18 : decode cX6_keep 18 = .ok (.iaload, 1) := by decide +kernel
theorem dX6_keep_19 : decode cX6_keep 19 = .ok (.iastore, 1) := by decide +kernel
theorem dX6_keep_20 : decode cX6_keep 20 = .ok (.iinc 1 1, 3) := by decide +kernel
theorem dX6_keep_23 : decode cX6_keep 23 = .ok (.goto (-21), 3) := by decide +kernel
theorem dX6_keep_26 : decode cX6_keep 26 = .ok (.aload_n 0, 1) := by decide +kernel
theorem dX6_keep_27 : decode cX6_keep 27 = .ok (.iconst 1, 1) := by decide +kernel
theorem dX6_keep_28 : decode cX6_keep 28 = .ok (.putfield 172, 3) := by decide +kernel
theorem dX6_keep_31 : decode cX6_keep 31 = .ok (.aload_n 0, 1) := by decide +kernel
theorem dX6_keep_32 : decode cX6_keep 32 = .ok (.getfield 9, 3) := by decide +kernel
theorem dX6_keep_35 : decode cX6_keep 35 = .ok (.iconst 0, 1) := by decide +kernel
theorem dX6_keep_36 : decode cX6_keep 36 = .ok (.iaload, 1) := by decide +kernel
theorem dX6_keep_37 : decode cX6_keep 37 = .ok (.ireturn, 1) := by decide +kernel
set_option maxRecDepth 20000 in
theorem ggX6_back_X6_finding : GoodIn wsX6_back wsX6_finding := goodIn_r _ [9, 10, 11, 12, 13, 14, 15, 16, 17, 18, 19, 20, 21, 22, 23, 24, 25, 26] (by decide +kernel) (by decide +kernel)
set_option maxRecDepth 20000 in
theorem gX6_back_X6_finding : GoodIn wsX6_back (wsV RX6 49 RX6 yX6_finding wsX6_finding) := goodIn_app (goodIn_of _ (by decide +kernel)) ggX6_back_X6_finding
theorem dX6_back_0 : decode cX6_back 0 = .ok (.aload_n 0, 1) := by decide +kernel
theorem dX6_back_1 : decode cX6_back 1 = .ok (.getfield 172, 3) := by decide +kernel
theorem dX6_back_4 : decode cX6_back 4 = .ok (.ifCond .ne 10, 3) := by decide +kernel
theorem dX6_back_7 : decode cX6_back 7 = .ok (.aload_n 0, 1) := by decide +kernel
theorem dX6_back_8 : decode cX6_back 8 = .ok (.ldc 83, 2) := by decide +kernel
theorem dX6_back_10 : decode cX6_back 10 = .ok (.invokevirtual 49, 3) := by decide +kernel
theorem dX6_back_13 : decode cX6_back 13 = .ok (.ireturn, 1) := by decide +kernel
theorem dX6_back_14 : decode cX6_back 14 = .ok (.iconst 0, 1) := by decide +kernel
theorem dX6_back_15 : decode cX6_back 15 = .ok (.istore_n 1, 1) := by decide +kernel
theorem dX6_back_16 : decode cX6_back 16 = .ok (.iload_n 1, 1) := by decide +kernel
theorem dX6_back_17 : decode cX6_back 17 = .ok (.bipush 116, 2) := by decide +kernel
theorem dX6_back_19 : decode cX6_back 19 = .ok (.if_icmp .ge 21, 3) := by decide +kernel
theorem dX6_back_22 : decode cX6_back 22 = .ok (.aload_n 0, 1) := by decide +kernel
theorem dX6_back_23 : decode cX6_back 23 = .ok (.getfield 9, 3) := by decide +kernel
theorem dX6_back_26 : decode cX6_back 26 = .ok (.iload_n 1, 1) := by decide +kernel
theorem dX6_back_27 : decode cX6_back 27 = .ok (.aload_n 0, 1) := by decide +kernel
theorem dX6_back_28 : decode cX6_back 28 = .ok (.getfield 13, 3) := by decide +kernel
theorem dX6_back_31 : decode cX6_back 31 = .ok (.iload_n 1, 1) := by decide +kernel
theorem dX6_back_32 : decode cX6_back 32 = .ok (.iaload, 1) := by decide +kernel
theorem dX6_back_33 : decode cX6_back 33 = .ok (.iastore, 1) := by decide +kernel
theorem dX6_back_34 : decode cX6_back 34 = .ok (.iinc 1 1, 3) := by decide +kernel
theorem dX6_back_37 : decode cX6_back 37 = .ok (.goto (-21), 3) := by decide +kernel
theorem dX6_back_40 : decode cX6_back 40 = .ok (.aload_n 0, 1) := by decide +kernel
theorem dX6_back_41 : decode cX6_back 41 = .ok (.getfield 9, 3) := by decide +kernel
theorem dX6_back_44 : decode cX6_back 44 = .ok (.iconst 0, 1) := by decide +kernel
theorem dX6_back_45 : decode cX6_back 45 = .ok (.iaload, 1) := by decide +kernel
theorem dX6_back_46 : decode cX6_back 46 = .ok (.ireturn, 1) := by decide +kernel
set_option maxRecDepth 20000 in
theorem ggX6_told_X6_within : GoodIn wsX6_told wsX6_within := goodIn_r _ [7] (by decide +kernel) (by decide +kernel)
set_option maxRecDepth 20000 in
theorem gX6_told_X6_within : GoodIn wsX6_told (va_wsS RX6 44 yX6_within wsX6_within) := goodIn_app (goodIn_of _ (by decide +kernel)) ggX6_told_X6_within
set_option maxRecDepth 20000 in
theorem ggX6_told_X6_finding : GoodIn wsX6_told wsX6_finding := goodIn_r _ [11, 3, 15, 16, 17, 18, 19, 20, 21, 22, 23, 24, 25, 26, 27, 28, 29, 30] (by decide +kernel) (by decide +kernel)
set_option maxRecDepth 20000 in
theorem gX6_told_X6_finding : GoodIn wsX6_told (wsV RX6 49 RX6 yX6_finding wsX6_finding) := goodIn_app (goodIn_of _ (by decide +kernel)) ggX6_told_X6_finding
set_option maxRecDepth 20000 in
theorem ggX6_told_X6_many : GoodIn wsX6_told wsX6_many := goodIn_r _ [14] (by decide +kernel) (by decide +kernel)
set_option maxRecDepth 20000 in
theorem gX6_told_X6_many : GoodIn wsX6_told (va_wsS RX6 63 yX6_many wsX6_many) := goodIn_app (goodIn_of _ (by decide +kernel)) ggX6_told_X6_many
theorem dX6_told_0 : decode cX6_told 0 = .ok (.iload_n 1, 1) := by decide +kernel
theorem dX6_told_1 : decode cX6_told 1 = .ok (.iconst 0, 1) := by decide +kernel
theorem dX6_told_2 : decode cX6_told 2 = .ok (.iconst 3, 1) := by decide +kernel
theorem dX6_told_3 : decode cX6_told 3 = .ok (.invokestatic 44, 3) := by decide +kernel
theorem dX6_told_6 : decode cX6_told 6 = .ok (.ifCond .ne 10, 3) := by decide +kernel
theorem dX6_told_9 : decode cX6_told 9 = .ok (.aload_n 0, 1) := by decide +kernel
theorem dX6_told_10 : decode cX6_told 10 = .ok (.ldc 48, 2) := by decide +kernel
theorem dX6_told_12 : decode cX6_told 12 = .ok (.invokevirtual 49, 3) := by decide +kernel
theorem dX6_told_15 : decode cX6_told 15 = .ok (.ireturn, 1) := by decide +kernel
theorem dX6_told_16 : decode cX6_told 16 = .ok (.iconst 0, 1) := by decide +kernel
theorem dX6_told_17 : decode cX6_told 17 = .ok (.istore_n 2, 1) := by decide +kernel
theorem dX6_told_18 : decode cX6_told 18 = .ok (.iconst 0, 1) := by decide +kernel
theorem dX6_told_19 : decode cX6_told 19 = .ok (.istore_n 3, 1) := by decide +kernel
theorem dX6_told_20 : decode cX6_told 20 = .ok (.iload_n 3, 1) := by decide +kernel
theorem dX6_told_21 : decode cX6_told 21 = .ok (.aload_n 0, 1) := by decide +kernel
theorem dX6_told_22 : decode cX6_told 22 = .ok (.getfield 9, 3) := by decide +kernel
theorem dX6_told_25 : decode cX6_told 25 = .ok (.iconst 0, 1) := by decide +kernel
theorem dX6_told_26 : decode cX6_told 26 = .ok (.iaload, 1) := by decide +kernel
theorem dX6_told_27 : decode cX6_told 27 = .ok (.if_icmp .ge 24, 3) := by decide +kernel
theorem dX6_told_30 : decode cX6_told 30 = .ok (.iload_n 2, 1) := by decide +kernel
theorem dX6_told_31 : decode cX6_told 31 = .ok (.aload_n 0, 1) := by decide +kernel
theorem dX6_told_32 : decode cX6_told 32 = .ok (.getfield 9, 3) := by decide +kernel
theorem dX6_told_35 : decode cX6_told 35 = .ok (.bipush 62, 2) := by decide +kernel
theorem dX6_told_37 : decode cX6_told 37 = .ok (.iload_n 3, 1) := by decide +kernel
theorem dX6_told_38 : decode cX6_told 38 = .ok (.iadd, 1) := by decide +kernel
theorem dX6_told_39 : decode cX6_told 39 = .ok (.iaload, 1) := by decide +kernel
theorem dX6_told_40 : decode cX6_told 40 = .ok (.invokestatic 63, 3) := by decide +kernel
theorem dX6_told_43 : decode cX6_told 43 = .ok (.iadd, 1) := by decide +kernel
theorem dX6_told_44 : decode cX6_told 44 = .ok (.istore_n 2, 1) := by decide +kernel
theorem dX6_told_45 : decode cX6_told 45 = .ok (.iinc 3 1, 3) := by decide +kernel
theorem dX6_told_48 : decode cX6_told 48 = .ok (.goto (-28), 3) := by decide +kernel
theorem dX6_told_51 : decode cX6_told 51 = .ok (.iload_n 1, 1) := by decide +kernel
theorem dX6_told_52 : decode cX6_told 52 = .ok (.ifCond .ne 12, 3) := by decide +kernel
theorem dX6_told_55 : decode cX6_told 55 = .ok (.aload_n 0, 1) := by decide +kernel
theorem dX6_told_56 : decode cX6_told 56 = .ok (.getfield 9, 3) := by decide +kernel
theorem dX6_told_59 : decode cX6_told 59 = .ok (.iconst 0, 1) := by decide +kernel
theorem dX6_told_60 : decode cX6_told 60 = .ok (.iaload, 1) := by decide +kernel
theorem dX6_told_61 : decode cX6_told 61 = .ok (.goto 30, 3) := by decide +kernel
theorem dX6_told_64 : decode cX6_told 64 = .ok (.iload_n 1, 1) := by decide +kernel
theorem dX6_told_65 : decode cX6_told 65 = .ok (.iconst 1, 1) := by decide +kernel
theorem dX6_told_66 : decode cX6_told 66 = .ok (.if_icmp .ne 7, 3) := by decide +kernel
theorem dX6_told_69 : decode cX6_told 69 = .ok (.iload_n 2, 1) := by decide +kernel
theorem dX6_told_70 : decode cX6_told 70 = .ok (.goto 21, 3) := by decide +kernel
theorem dX6_told_73 : decode cX6_told 73 = .ok (.iload_n 1, 1) := by decide +kernel
theorem dX6_told_74 : decode cX6_told 74 = .ok (.iconst 2, 1) := by decide +kernel
theorem dX6_told_75 : decode cX6_told 75 = .ok (.if_icmp .ne 10, 3) := by decide +kernel
theorem dX6_told_78 : decode cX6_told 78 = .ok (.aload_n 0, 1) := by decide +kernel
theorem dX6_told_79 : decode cX6_told 79 = .ok (.getfield 40, 3) := by decide +kernel
theorem dX6_told_82 : decode cX6_told 82 = .ok (.goto 9, 3) := by decide +kernel
theorem dX6_told_85 : decode cX6_told 85 = .ok (.aload_n 0, 1) := by decide +kernel
theorem dX6_told_86 : decode cX6_told 86 = .ok (.getfield 9, 3) := by decide +kernel
theorem dX6_told_89 : decode cX6_told 89 = .ok (.iconst 1, 1) := by decide +kernel
theorem dX6_told_90 : decode cX6_told 90 = .ok (.iaload, 1) := by decide +kernel
theorem dX6_told_91 : decode cX6_told 91 = .ok (.ireturn, 1) := by decide +kernel
theorem dJ6_bitCount_0f7a4_0 : decode cJ6_bitCount_0f7a4 0 = .ok (.iload_n 0, 1) := by decide +kernel
theorem dJ6_bitCount_0f7a4_1 : decode cJ6_bitCount_0f7a4 1 = .ok (.iload_n 0, 1) := by decide +kernel
theorem dJ6_bitCount_0f7a4_2 : decode cJ6_bitCount_0f7a4 2 = .ok (.iconst 1, 1) := by decide +kernel
theorem dJ6_bitCount_0f7a4_3 : decode cJ6_bitCount_0f7a4 3 = .ok (.iushr, 1) := by decide +kernel
theorem dJ6_bitCount_0f7a4_4 : decode cJ6_bitCount_0f7a4 4 = .ok (.ldc_w 265, 3) := by decide +kernel
theorem dJ6_bitCount_0f7a4_7 : decode cJ6_bitCount_0f7a4 7 = .ok (.iand, 1) := by decide +kernel
theorem dJ6_bitCount_0f7a4_8 : decode cJ6_bitCount_0f7a4 8 = .ok (.isub, 1) := by decide +kernel
theorem dJ6_bitCount_0f7a4_9 : decode cJ6_bitCount_0f7a4 9 = .ok (.istore_n 0, 1) := by decide +kernel
theorem dJ6_bitCount_0f7a4_10 : decode cJ6_bitCount_0f7a4 10 = .ok (.iload_n 0, 1) := by decide +kernel
theorem dJ6_bitCount_0f7a4_11 : decode cJ6_bitCount_0f7a4 11 = .ok (.ldc_w 266, 3) := by decide +kernel
theorem dJ6_bitCount_0f7a4_14 : decode cJ6_bitCount_0f7a4 14 = .ok (.iand, 1) := by decide +kernel
theorem dJ6_bitCount_0f7a4_15 : decode cJ6_bitCount_0f7a4 15 = .ok (.iload_n 0, 1) := by decide +kernel
theorem dJ6_bitCount_0f7a4_16 : decode cJ6_bitCount_0f7a4 16 = .ok (.iconst 2, 1) := by decide +kernel
theorem dJ6_bitCount_0f7a4_17 : decode cJ6_bitCount_0f7a4 17 = .ok (.iushr, 1) := by decide +kernel
theorem dJ6_bitCount_0f7a4_18 : decode cJ6_bitCount_0f7a4 18 = .ok (.ldc_w 266, 3) := by decide +kernel
theorem dJ6_bitCount_0f7a4_21 : decode cJ6_bitCount_0f7a4 21 = .ok (.iand, 1) := by decide +kernel
theorem dJ6_bitCount_0f7a4_22 : decode cJ6_bitCount_0f7a4 22 = .ok (.iadd, 1) := by decide +kernel
theorem dJ6_bitCount_0f7a4_23 : decode cJ6_bitCount_0f7a4 23 = .ok (.istore_n 0, 1) := by decide +kernel
theorem dJ6_bitCount_0f7a4_24 : decode cJ6_bitCount_0f7a4 24 = .ok (.iload_n 0, 1) := by decide +kernel
theorem dJ6_bitCount_0f7a4_25 : decode cJ6_bitCount_0f7a4 25 = .ok (.iload_n 0, 1) := by decide +kernel
theorem dJ6_bitCount_0f7a4_26 : decode cJ6_bitCount_0f7a4 26 = .ok (.iconst 4, 1) := by decide +kernel
theorem dJ6_bitCount_0f7a4_27 : decode cJ6_bitCount_0f7a4 27 = .ok (.iushr, 1) := by decide +kernel
theorem dJ6_bitCount_0f7a4_28 : decode cJ6_bitCount_0f7a4 28 = .ok (.iadd, 1) := by decide +kernel
theorem dJ6_bitCount_0f7a4_29 : decode cJ6_bitCount_0f7a4 29 = .ok (.ldc_w 267, 3) := by decide +kernel
theorem dJ6_bitCount_0f7a4_32 : decode cJ6_bitCount_0f7a4 32 = .ok (.iand, 1) := by decide +kernel
theorem dJ6_bitCount_0f7a4_33 : decode cJ6_bitCount_0f7a4 33 = .ok (.istore_n 0, 1) := by decide +kernel
theorem dJ6_bitCount_0f7a4_34 : decode cJ6_bitCount_0f7a4 34 = .ok (.iload_n 0, 1) := by decide +kernel
theorem dJ6_bitCount_0f7a4_35 : decode cJ6_bitCount_0f7a4 35 = .ok (.iload_n 0, 1) := by decide +kernel
theorem dJ6_bitCount_0f7a4_36 : decode cJ6_bitCount_0f7a4 36 = .ok (.bipush 8, 2) := by decide +kernel
theorem dJ6_bitCount_0f7a4_38 : decode cJ6_bitCount_0f7a4 38 = .ok (.iushr, 1) := by decide +kernel
theorem dJ6_bitCount_0f7a4_39 : decode cJ6_bitCount_0f7a4 39 = .ok (.iadd, 1) := by decide +kernel
theorem dJ6_bitCount_0f7a4_40 : decode cJ6_bitCount_0f7a4 40 = .ok (.istore_n 0, 1) := by decide +kernel
theorem dJ6_bitCount_0f7a4_41 : decode cJ6_bitCount_0f7a4 41 = .ok (.iload_n 0, 1) := by decide +kernel
theorem dJ6_bitCount_0f7a4_42 : decode cJ6_bitCount_0f7a4 42 = .ok (.iload_n 0, 1) := by decide +kernel
theorem dJ6_bitCount_0f7a4_43 : decode cJ6_bitCount_0f7a4 43 = .ok (.bipush 16, 2) := by decide +kernel
theorem dJ6_bitCount_0f7a4_45 : decode cJ6_bitCount_0f7a4 45 = .ok (.iushr, 1) := by decide +kernel
theorem dJ6_bitCount_0f7a4_46 : decode cJ6_bitCount_0f7a4 46 = .ok (.iadd, 1) := by decide +kernel
theorem dJ6_bitCount_0f7a4_47 : decode cJ6_bitCount_0f7a4 47 = .ok (.istore_n 0, 1) := by decide +kernel
theorem dJ6_bitCount_0f7a4_48 : decode cJ6_bitCount_0f7a4 48 = .ok (.iload_n 0, 1) := by decide +kernel
theorem dJ6_bitCount_0f7a4_49 : decode cJ6_bitCount_0f7a4 49 = .ok (.bipush 63, 2) := by decide +kernel
theorem dJ6_bitCount_0f7a4_51 : decode cJ6_bitCount_0f7a4 51 = .ok (.iand, 1) := by decide +kernel
theorem dJ6_bitCount_0f7a4_52 : decode cJ6_bitCount_0f7a4 52 = .ok (.ireturn, 1) := by decide +kernel
theorem dJ9_abs_0f7a4_0 : decode cJ9_abs_0f7a4 0 = .ok (.iload_n 0, 1) := by decide +kernel
theorem dJ9_abs_0f7a4_1 : decode cJ9_abs_0f7a4 1 = .ok (.ifCond .ge 8, 3) := by decide +kernel
theorem dJ9_abs_0f7a4_4 : decode cJ9_abs_0f7a4 4 = .ok (.iload_n 0, 1) := by decide +kernel
theorem dJ9_abs_0f7a4_5 : decode cJ9_abs_0f7a4 5 = .ok (.ineg, 1) := by decide +kernel
theorem dJ9_abs_0f7a4_6 : decode cJ9_abs_0f7a4 6 = .ok (.goto 4, 3) := by decide +kernel
theorem dJ9_abs_0f7a4_9 : decode cJ9_abs_0f7a4 9 = .ok (.iload_n 0, 1) := by decide +kernel
theorem dJ9_abs_0f7a4_10 : decode cJ9_abs_0f7a4 10 = .ok (.ireturn, 1) := by decide +kernel
theorem dJ9_max_7cf53_0 : decode cJ9_max_7cf53 0 = .ok (.iload_n 0, 1) := by decide +kernel
theorem dJ9_max_7cf53_1 : decode cJ9_max_7cf53 1 = .ok (.iload_n 1, 1) := by decide +kernel
theorem dJ9_max_7cf53_2 : decode cJ9_max_7cf53 2 = .ok (.if_icmp .lt 7, 3) := by decide +kernel
theorem dJ9_max_7cf53_5 : decode cJ9_max_7cf53 5 = .ok (.iload_n 0, 1) := by decide +kernel
theorem dJ9_max_7cf53_6 : decode cJ9_max_7cf53 6 = .ok (.goto 4, 3) := by decide +kernel
theorem dJ9_max_7cf53_9 : decode cJ9_max_7cf53 9 = .ok (.iload_n 1, 1) := by decide +kernel
theorem dJ9_max_7cf53_10 : decode cJ9_max_7cf53 10 = .ok (.ireturn, 1) := by decide +kernel
theorem dJ9_min_7cf53_0 : decode cJ9_min_7cf53 0 = .ok (.iload_n 0, 1) := by decide +kernel
theorem dJ9_min_7cf53_1 : decode cJ9_min_7cf53 1 = .ok (.iload_n 1, 1) := by decide +kernel
theorem dJ9_min_7cf53_2 : decode cJ9_min_7cf53 2 = .ok (.if_icmp .gt 7, 3) := by decide +kernel
theorem dJ9_min_7cf53_5 : decode cJ9_min_7cf53 5 = .ok (.iload_n 0, 1) := by decide +kernel
theorem dJ9_min_7cf53_6 : decode cJ9_min_7cf53 6 = .ok (.goto 4, 3) := by decide +kernel
theorem dJ9_min_7cf53_9 : decode cJ9_min_7cf53 9 = .ok (.iload_n 1, 1) := by decide +kernel
theorem dJ9_min_7cf53_10 : decode cJ9_min_7cf53 10 = .ok (.ireturn, 1) := by decide +kernel
end
section
/-! the ground of all walks: states as functions, worlds out of states, contracts over a world, calls over them -/
def bnd {α β : Type} (x : α) (k : α → β) : β := k x
abbrev St : Type := Nat → Nat → Int32
def sU (st : St) (c j : Nat) (v : Int32) : St := fun c' => if c' = c then upd (st c) j v else st c'
def sF (st : St) (c : Nat) (f : Nat → Int32) : St := fun c' => if c' = c then f else st c'
def b2i (b : Bool) : Int32 := if b then 1 else 0
def ck {β : Type} (n : Nat) (i : Int32) (k : Nat → Option β) : Option β := if i < 0 ∨ n ≤ i.toNatClampNeg then none else k i.toNatClampNeg
def sto {β : Type} (n : Nat) (st : St) (c : Nat) (i x : Int32) (k : St → Option β) : Option β := ck n i fun j => k (sU st c j x)
def ush (x y : Int32) : Int32 := (x.toUInt32 >>> (y.toUInt32 &&& Int32.toUInt32 31)).toInt32
def acp {β : Type} (n0 n1 : Nat) (st : St) (c0 c1 : Nat) (sp dp n : Int32) (k : St → Option β) : Option β := if sp < 0 ∨ dp < 0 ∨ n < 0 ∨ n0 < sp.toNatClampNeg + n.toNatClampNeg ∨ n1 < dp.toNatClampNeg + n.toNatClampNeg then none else k (sF st c1 (va_cpy (st c0) (st c1) sp.toNatClampNeg dp.toNatClampNeg n.toNatClampNeg))
def gz {β : Type} (v : Int32) (k : Bool → Option β) : Option β := if v = 0 then k false else if v = 1 then k true else none
def nz {β : Type} (v : Int32) (k : Option β) : Option β := if v = 0 then none else k
def bd1 {α β : Type} (o : Option α) (k : α → Option β) : Option β := o.bind k
def bd2 {α α' β : Type} (o : Option (α × α')) (k : α → α' → Option β) : Option β := o.bind fun q => k q.1 q.2
theorem ck_some {β : Type} {n : Nat} {i : Int32} {k : Nat → Option β} {r : β} (h : ck n i k = some r) : vp_in i n ∧ i.toNatClampNeg < n ∧ k i.toNatClampNeg = some r := by
  unfold ck at h
  by_cases hc : i < 0 ∨ n ≤ i.toNatClampNeg
  · rw [if_pos hc] at h; cases h
  · rw [if_neg hc] at h
    exact ⟨hc, Nat.lt_of_not_le (fun h2 => hc (Or.inr h2)), h⟩
theorem gz_some {β : Type} {v : Int32} {k : Bool → Option β} {r : β} (h : gz v k = some r) : ∃ b : Bool, v = b2i b ∧ k b = some r := by
  unfold gz at h
  by_cases h0 : v = 0
  · rw [if_pos h0] at h; exact ⟨false, h0, h⟩
  · rw [if_neg h0] at h
    by_cases h1 : v = 1
    · rw [if_pos h1] at h; exact ⟨true, h1, h⟩
    · rw [if_neg h1] at h; cases h
theorem nz_some {β : Type} {v : Int32} {k : Option β} {r : β} (h : nz v k = some r) : ¬ v = 0 ∧ k = some r := by
  unfold nz at h
  by_cases h0 : v = 0
  · rw [if_pos h0] at h; cases h
  · rw [if_neg h0] at h; exact ⟨h0, h⟩
theorem bd1_some {α β : Type} {o : Option α} {k : α → Option β} {r : β} (h : bd1 o k = some r) : ∃ a, o = some a ∧ k a = some r := by
  unfold bd1 at h
  cases o with
  | none => cases h
  | some a => exact ⟨a, rfl, h⟩
theorem bd2_some {α α' β : Type} {o : Option (α × α')} {k : α → α' → Option β} {r : β} (h : bd2 o k = some r) : ∃ a b, o = some (a, b) ∧ k a b = some r := by
  unfold bd2 at h
  cases o with
  | none => cases h
  | some a => exact ⟨a.1, a.2, rfl, h⟩
theorem tab_ne {x : Int32} (k : Int32) (h : ¬ x = k) : x.toInt ≠ k.toInt := fun e => h (Int32.toInt_inj.mp e)
theorem tab_out4 {x : Int32} (h0 : ¬ x = 0) (h1 : ¬ x = 1) (h2 : ¬ x = 2) (h3 : ¬ x = 3) : x.toInt < 0 ∨ 3 < x.toInt := by
  have a0 : x.toInt ≠ 0 := tab_ne 0 h0
  have a1 : x.toInt ≠ 1 := tab_ne 1 h1
  have a2 : x.toInt ≠ 2 := tab_ne 2 h2
  have a3 : x.toInt ≠ 3 := tab_ne 3 h3
  omega
theorem tab_out8 {x : Int32} (h0 : ¬ x = 0) (h1 : ¬ x = 1) (h2 : ¬ x = 2) (h3 : ¬ x = 3) (h4 : ¬ x = 4) (h5 : ¬ x = 5) (h6 : ¬ x = 6) (h7 : ¬ x = 7) : x.toInt < 0 ∨ 7 < x.toInt := by
  have a0 : x.toInt ≠ 0 := tab_ne 0 h0
  have a1 : x.toInt ≠ 1 := tab_ne 1 h1
  have a2 : x.toInt ≠ 2 := tab_ne 2 h2
  have a3 : x.toInt ≠ 3 := tab_ne 3 h3
  have a4 : x.toInt ≠ 4 := tab_ne 4 h4
  have a5 : x.toInt ≠ 5 := tab_ne 5 h5
  have a6 : x.toInt ≠ 6 := tab_ne 6 h6
  have a7 : x.toInt ≠ 7 := tab_ne 7 h7
  omega
theorem nar_b (b : Bool) : narrow .boolean (.int (b2i b)) = .int (b2i b) := by cases b <;> rfl
theorem vpk {i : Int32} {n : Nat} (h : decide (i < 0 ∨ n ≤ i.toNatClampNeg) = false) : vp_in i n := of_decide_eq_false h
abbrev GP : Type := va_G × (Nat → ClassId) × Nat
def tyG (g : GP) : List (ClassId × FieldType) := [(g.2.1 0, .int), (g.2.1 1, .boolean), (g.2.1 2, .object "GraveRows$Grave"), (g.2.1 3, .object "GraveRows$Sheet")]
def kai (j : Nat) : Int32 := match j with | 0 => -1 | 1 => 0 | 2 => 0 | _ => 1
def EV (g : GP) (A : Nat → Prop) (U : State) (H : Heap) : Prop := va_Nw (.methodLinkNest RX2 61 yX5_isIn RX5) U ∧ va_Nw (.methodLinkNest RX3 84 yX5_isIn RX5) U ∧ va_Z "GraveRows$Grave" "KIND_ABOVE" "[I" (.ref g.2.2) A U H ∧ va_T .int g.2.2 4 (fun j => .int (kai j)) A U H
theorem EV.go {g : GP} {A A1 : Nat → Prop} {s U : State} {H H1 : Heap} (hE : EV g A s H) (hW : s.WarmedH U.vm) (hk : ∀ a : Nat, a < H.size → ¬ A a → H1[a]? = H[a]?) (hA : ∀ q, A1 q → A q) : EV g A1 U H1 :=
  ⟨va_Nw.warmM hW hE.1, va_Nw.warmM hW hE.2.1, ((hE.2.2.1.moved hW.alike).kept hk).narrow hA, ((hE.2.2.2.moved hW.alike).kept hk).narrow hA⟩
def IW (g : GP) (A : Nat → Prop) (H0 : Heap) (ws : va_W) (H : Heap) (locs : List Loc) : Prop := va_P g.1 vwCl ws H ∧ va_D A ws ∧ va_S A H0 H locs ∧ ∀ q : Nat, H0.size ≤ q → A q
def PcG (g : GP) (av : List Value) (ws : va_W) (sz : Nat) : Array Value → State → Prop := va_Pc av (fun U => U.heap.size = sz ∧ va_P g.1 vwCl ws U.heap ∧ va_K g.1 vwCl (tyG g) U ∧ va_D (fun _ => True) ws ∧ EV g (va_A ws sz) U U.heap)
theorem free_all {g : GP} {A : Nat → Prop} {H0 H : Heap} {ws : va_W} {locs : List Loc} (hI : IW g A H0 ws H locs) : ∀ q, va_A ws H.size q → A q := by
  obtain ⟨hP, hD, hS, hA⟩ := hI
  intro q h
  rcases h with ⟨k, e, h⟩ | h
  · exact hD.2 k _ h
  · exact hA q (Nat.le_trans hS.1 h)
def MetI (l : Launch) (y : MethodName) (wd : List Cond) (rm : Room) (g : GP) (wf : St → va_W) (av : List Value) (st : St) (r : Int32) (st' : St) : Prop := ∀ sz : Nat, Met l y wd rm (PcG g av (wf st) sz) (va_Qi (fun (x : Int32) (_ : Unit) => x = r) (fun _ t => va_P g.1 vwCl (wf st') t.heap ∧ va_D (va_A (wf st) sz) (wf st')) (va_A (wf st) sz)) 0 0 (va_A (wf st) sz)
def MetL (l : Launch) (y : MethodName) (wd : List Cond) (rm : Room) (g : GP) (wf : St → va_W) (av : List Value) (st : St) (r : Int64) (st' : St) : Prop := ∀ sz : Nat, Met l y wd rm (PcG g av (wf st) sz) (va_Ql (fun (x : Int64) (_ : Unit) => x = r) (fun _ t => va_P g.1 vwCl (wf st') t.heap ∧ va_D (va_A (wf st) sz) (wf st')) (va_A (wf st) sz)) 0 0 (va_A (wf st) sz)
def MetV (l : Launch) (y : MethodName) (wd : List Cond) (rm : Room) (g : GP) (wf : St → va_W) (av : List Value) (st : St) (st' : St) : Prop := ∀ sz : Nat, Met l y wd rm (PcG g av (wf st) sz) (va_Qv (fun (_ : Unit) => True) (fun _ t => va_P g.1 vwCl (wf st') t.heap ∧ va_D (va_A (wf st) sz) (wf st')) (va_A (wf st) sz)) 0 0 (va_A (wf st) sz)
def MetR (l : Launch) (y : MethodName) (wd : List Cond) (rm : Room) (g : GP) (wf : St → va_W) (av : List Value) (st : St) (r : Nat) (st' : St) : Prop := ∀ sz : Nat, Met l y wd rm (PcG g av (wf st) sz) (va_Qr (fun (_ : Unit) => True) (fun _ a t => a = r ∧ va_P g.1 vwCl (wf st') t.heap ∧ va_D (va_A (wf st) sz) (wf st')) (va_A (wf st) sz)) 0 0 (va_A (wf st) sz)
def MetS (l : Launch) (y : MethodName) (wd : List Cond) (rm : Room) (av : List Value) (r : Int32) : Prop := Met l y wd rm (fun v _ => v = av.toArray) (QcRead r) 0 0 (fun _ => False)
/-- what a walk stands on: the machine, the words, the kinds, what lies outside -/
def Cx (p : Program) (s : State) (m : MethodId) (args : Array Value) (c : Code) (cc : ByteArray) (nL : Nat) (wd : List Cond) (own : String) (g : GP) (A : Nat → Prop) : Prop := CallFix p m c cc nL s args wd own ∧ va_K g.1 vwCl (tyG g) s ∧ EV g A s s.heap
def RetI (p : Program) (l : Launch) (e : Env) (R : Room) (s : State) (m : MethodId) (args : Array Value) (below : List Frame) (meth : Method) (c : Code) (Q : State → Prop) (cc : ByteArray) (g : GP) (A : Nat → Prop) (ws : va_W) (r : Int32) : Prop :=
  ∀ (H : Heap) (locs : List Loc) (pc : Nat) (ls : Array Slot), IW g A s.heap ws H locs → decode cc pc = .ok (.ireturn, 1) → W p l e R s m args below meth c H locs 0 0 Q (F0 m pc ls [.int r])
def RetL (p : Program) (l : Launch) (e : Env) (R : Room) (s : State) (m : MethodId) (args : Array Value) (below : List Frame) (meth : Method) (c : Code) (Q : State → Prop) (cc : ByteArray) (g : GP) (A : Nat → Prop) (ws : va_W) (r : Int64) : Prop :=
  ∀ (H : Heap) (locs : List Loc) (pc : Nat) (ls : Array Slot), IW g A s.heap ws H locs → decode cc pc = .ok (.lreturn, 1) → W p l e R s m args below meth c H locs 0 0 Q (F0 m pc ls [.long r])
def RetR (p : Program) (l : Launch) (e : Env) (R : Room) (s : State) (m : MethodId) (args : Array Value) (below : List Frame) (meth : Method) (c : Code) (Q : State → Prop) (cc : ByteArray) (g : GP) (A : Nat → Prop) (ws : va_W) (r : Nat) : Prop :=
  ∀ (H : Heap) (locs : List Loc) (pc : Nat) (ls : Array Slot), IW g A s.heap ws H locs → decode cc pc = .ok (.areturn, 1) → W p l e R s m args below meth c H locs 0 0 Q (F0 m pc ls [.ref r])
def RetV (p : Program) (l : Launch) (e : Env) (R : Room) (s : State) (m : MethodId) (args : Array Value) (below : List Frame) (meth : Method) (c : Code) (Q : State → Prop) (cc : ByteArray) (g : GP) (A : Nat → Prop) (ws : va_W) : Prop :=
  ∀ (H : Heap) (locs : List Loc) (pc : Nat) (ls : Array Slot), IW g A s.heap ws H locs → decode cc pc = .ok (.return_, 1) → W p l e R s m args below meth c H locs 0 0 Q (F0 m pc ls [])
def RetS (p : Program) (l : Launch) (e : Env) (R : Room) (s : State) (m : MethodId) (args : Array Value) (below : List Frame) (meth : Method) (c : Code) (Q : State → Prop) (cc : ByteArray) (r : Int32) : Prop :=
  ∀ (pc : Nat) (ls : Array Slot), decode cc pc = .ok (.ireturn, 1) → W p l e R s m args below meth c s.heap [] 0 0 Q (F0 m pc ls [.int r])
theorem metS_of {l : Launch} {y : MethodName} {wd wd' : List Cond} {rm : Room} {av : List Value} {r : Int32} {cc : ByteArray} {nL : Nat} {ty : FieldType} (hpl : plainName y.cls = true) (hw : wd = Cond.code y cc nL (some ty) :: wd') (hn : (lg_sl av).length ≤ nL) (hnar : narrow ty (.int r) = .int r)
    (body : ∀ (p : Program) (e : Env) (s : State) (m : MethodId) (below : List Frame) (meth : Method) (c : Code) (Q : State → Prop), CallFix p m c cc nL s av.toArray wd y.cls → RetS p l e rm s m av.toArray below meth c Q cc r →
      ∀ ls : Array Slot, lv_has ls nL (lv_args 0 av) → W p l e rm s m av.toArray below meth c s.heap [] 0 0 Q (F0 m 0 ls [])) : MetS l y wd rm av r := by
  refine Met.ofW (cc := cc) (maxL := nL) (ret := some ty) hpl hw ?_
  intro p e s m args below meth c s₁ B hml hv
  subst hv
  have hx := B.exec
  have hb := B.bytes
  have hr := B.returns
  have hts := atoms_spec (ws := wd) B.pre
  have hown : s.vm.findClass y.cls = some m.cls := findClass_of_methodNamed B.named
  have hlocks := B.notSynchronized
  have hl := lv_entry av (n := nL) hn
  rw [lg_entry_eq]
  refine body p e s m below meth c _ ⟨hx, hb, hml, hown, hts⟩ ?_ _ hl
  intro pc ls hdg
  exact W.zret hx hb hr hnar (fun t ht hW => ⟨rfl, ht⟩) (fun q h => absurd h List.not_mem_nil) hdg
theorem metI_of {l : Launch} {y : MethodName} {wd wd' : List Cond} {rm : Room} {g : GP} {wf : St → va_W} {av : List Value} {st st' : St} {r : Int32} {cc : ByteArray} {nL : Nat} {ty : FieldType} (hpl : plainName y.cls = true) (hw : wd = Cond.code y cc nL (some ty) :: wd') (hn : (lg_sl av).length ≤ nL) (hnar : narrow ty (.int r) = .int r)
    (body : ∀ (p : Program) (e : Env) (s : State) (m : MethodId) (below : List Frame) (meth : Method) (c : Code) (Q : State → Prop) (A : Nat → Prop), Cx p s m av.toArray c cc nL wd y.cls g A → RetI p l e rm s m av.toArray below meth c Q cc g A (wf st') r →
      ∀ (H : Heap) (locs : List Loc), IW g A s.heap (wf st) H locs → ∀ ls : Array Slot, lv_has ls nL (lv_args 0 av) → W p l e rm s m av.toArray below meth c H locs 0 0 Q (F0 m 0 ls [])) : MetI l y wd rm g wf av st r st' := by
  intro sz
  refine Met.ofW (cc := cc) (maxL := nL) (ret := some ty) hpl hw ?_
  intro p e s m args below meth c s₁ B hml hv
  obtain ⟨rfl, hsz, hP, hK, hD0, hE⟩ := hv
  have hx := B.exec
  have hb := B.bytes
  have hr := B.returns
  have hts := atoms_spec (ws := wd) B.pre
  have hown : s.vm.findClass y.cls = some m.cls := findClass_of_methodNamed B.named
  have hlocks := B.notSynchronized
  subst hsz
  have hD := hD0.self (sz := s.heap.size)
  have hA : ∀ q : Nat, s.heap.size ≤ q → va_A (wf st) s.heap.size q := fun q h => Or.inr h
  have hl := lv_entry av (n := nL) hn
  rw [lg_entry_eq]
  refine body p e s m below meth c _ (va_A (wf st) s.heap.size) ⟨⟨hx, hb, hml, hown, hts⟩, hK, hE⟩ ?_ s.heap [] ⟨hP, hD, va_S.rf, hA⟩ _ hl
  intro H locs pc ls hI hdg
  obtain ⟨hP, hD, hS, -⟩ := hI
  exact W.zret hx hb hr hnar (fun t ht hW => ⟨⟨r, (), rfl, rfl, by rw [ht]; exact hP, hD⟩, hS.F ht⟩) hS.2.2 hdg
theorem metL_of {l : Launch} {y : MethodName} {wd wd' : List Cond} {rm : Room} {g : GP} {wf : St → va_W} {av : List Value} {st st' : St} {r : Int64} {cc : ByteArray} {nL : Nat} (hpl : plainName y.cls = true) (hw : wd = Cond.code y cc nL (some .long) :: wd') (hn : (lg_sl av).length ≤ nL)
    (body : ∀ (p : Program) (e : Env) (s : State) (m : MethodId) (below : List Frame) (meth : Method) (c : Code) (Q : State → Prop) (A : Nat → Prop), Cx p s m av.toArray c cc nL wd y.cls g A → RetL p l e rm s m av.toArray below meth c Q cc g A (wf st') r →
      ∀ (H : Heap) (locs : List Loc), IW g A s.heap (wf st) H locs → ∀ ls : Array Slot, lv_has ls nL (lv_args 0 av) → W p l e rm s m av.toArray below meth c H locs 0 0 Q (F0 m 0 ls [])) : MetL l y wd rm g wf av st r st' := by
  intro sz
  refine Met.ofW (cc := cc) (maxL := nL) (ret := some .long) hpl hw ?_
  intro p e s m args below meth c s₁ B hml hv
  obtain ⟨rfl, hsz, hP, hK, hD0, hE⟩ := hv
  have hx := B.exec
  have hb := B.bytes
  have hr := B.returns
  have hts := atoms_spec (ws := wd) B.pre
  have hown : s.vm.findClass y.cls = some m.cls := findClass_of_methodNamed B.named
  have hlocks := B.notSynchronized
  subst hsz
  have hD := hD0.self (sz := s.heap.size)
  have hA : ∀ q : Nat, s.heap.size ≤ q → va_A (wf st) s.heap.size q := fun q h => Or.inr h
  have hl := lv_entry av (n := nL) hn
  rw [lg_entry_eq]
  refine body p e s m below meth c _ (va_A (wf st) s.heap.size) ⟨⟨hx, hb, hml, hown, hts⟩, hK, hE⟩ ?_ s.heap [] ⟨hP, hD, va_S.rf, hA⟩ _ hl
  intro H locs pc ls hI hdg
  obtain ⟨hP, hD, hS, -⟩ := hI
  exact W.lret hx hb hr (fun t ht hW => ⟨⟨r, (), rfl, rfl, by rw [ht]; exact hP, hD⟩, hS.F ht⟩) hS.2.2 hdg
theorem metV_of {l : Launch} {y : MethodName} {wd wd' : List Cond} {rm : Room} {g : GP} {wf : St → va_W} {av : List Value} {st st' : St} {cc : ByteArray} {nL : Nat} (hpl : plainName y.cls = true) (hw : wd = Cond.code y cc nL none :: wd') (hn : (lg_sl av).length ≤ nL)
    (body : ∀ (p : Program) (e : Env) (s : State) (m : MethodId) (below : List Frame) (meth : Method) (c : Code) (Q : State → Prop) (A : Nat → Prop), Cx p s m av.toArray c cc nL wd y.cls g A → RetV p l e rm s m av.toArray below meth c Q cc g A (wf st') →
      ∀ (H : Heap) (locs : List Loc), IW g A s.heap (wf st) H locs → ∀ ls : Array Slot, lv_has ls nL (lv_args 0 av) → W p l e rm s m av.toArray below meth c H locs 0 0 Q (F0 m 0 ls [])) : MetV l y wd rm g wf av st st' := by
  intro sz
  refine Met.ofW (cc := cc) (maxL := nL) (ret := none) hpl hw ?_
  intro p e s m args below meth c s₁ B hml hv
  obtain ⟨rfl, hsz, hP, hK, hD0, hE⟩ := hv
  have hx := B.exec
  have hb := B.bytes
  have hr := B.returns
  have hts := atoms_spec (ws := wd) B.pre
  have hown : s.vm.findClass y.cls = some m.cls := findClass_of_methodNamed B.named
  have hlocks := B.notSynchronized
  subst hsz
  have hD := hD0.self (sz := s.heap.size)
  have hA : ∀ q : Nat, s.heap.size ≤ q → va_A (wf st) s.heap.size q := fun q h => Or.inr h
  have hl := lv_entry av (n := nL) hn
  rw [lg_entry_eq]
  refine body p e s m below meth c _ (va_A (wf st) s.heap.size) ⟨⟨hx, hb, hml, hown, hts⟩, hK, hE⟩ ?_ s.heap [] ⟨hP, hD, va_S.rf, hA⟩ _ hl
  intro H locs pc ls hI hdg
  obtain ⟨hP, hD, hS, -⟩ := hI
  exact W.vret hx hb hr (fun t ht hW => ⟨⟨(), rfl, trivial, by rw [ht]; exact hP, hD⟩, hS.F ht⟩) hS.2.2 hdg
theorem metR_of {l : Launch} {y : MethodName} {wd wd' : List Cond} {rm : Room} {g : GP} {wf : St → va_W} {av : List Value} {st st' : St} {r : Nat} {cc : ByteArray} {nL : Nat} {ty : FieldType} (hpl : plainName y.cls = true) (hw : wd = Cond.code y cc nL (some (.array ty)) :: wd') (hn : (lg_sl av).length ≤ nL)
    (body : ∀ (p : Program) (e : Env) (s : State) (m : MethodId) (below : List Frame) (meth : Method) (c : Code) (Q : State → Prop) (A : Nat → Prop), Cx p s m av.toArray c cc nL wd y.cls g A → RetR p l e rm s m av.toArray below meth c Q cc g A (wf st') r →
      ∀ (H : Heap) (locs : List Loc), IW g A s.heap (wf st) H locs → ∀ ls : Array Slot, lv_has ls nL (lv_args 0 av) → W p l e rm s m av.toArray below meth c H locs 0 0 Q (F0 m 0 ls [])) : MetR l y wd rm g wf av st r st' := by
  intro sz
  refine Met.ofW (cc := cc) (maxL := nL) (ret := some (.array ty)) hpl hw ?_
  intro p e s m args below meth c s₁ B hml hv
  obtain ⟨rfl, hsz, hP, hK, hD0, hE⟩ := hv
  have hx := B.exec
  have hb := B.bytes
  have hr := B.returns
  have hts := atoms_spec (ws := wd) B.pre
  have hown : s.vm.findClass y.cls = some m.cls := findClass_of_methodNamed B.named
  have hlocks := B.notSynchronized
  subst hsz
  have hD := hD0.self (sz := s.heap.size)
  have hA : ∀ q : Nat, s.heap.size ≤ q → va_A (wf st) s.heap.size q := fun q h => Or.inr h
  have hl := lv_entry av (n := nL) hn
  rw [lg_entry_eq]
  refine body p e s m below meth c _ (va_A (wf st) s.heap.size) ⟨⟨hx, hb, hml, hown, hts⟩, hK, hE⟩ ?_ s.heap [] ⟨hP, hD, va_S.rf, hA⟩ _ hl
  intro H locs pc ls hI hdg
  obtain ⟨hP, hD, hS, -⟩ := hI
  exact W.aret hx hb hr (Or.inr ⟨_, rfl⟩) (Or.inr ⟨_, rfl⟩) (fun t ht hW => ⟨⟨(), r, rfl, trivial, rfl, by rw [ht]; exact hP, hD⟩, hS.F ht⟩) hS.2.2 hdg
theorem metS_ofF {l : Launch} {y : MethodName} {wd wd' : List Cond} {rm : Room} {av : List Value} {r : Int32} {cc : ByteArray} {nL : Nat} {ty : FieldType} (hpl : plainFor y = true) (hw : wd = Cond.code y cc nL (some ty) :: wd') (hn : (lg_sl av).length ≤ nL) (hnar : narrow ty (.int r) = .int r)
    (body : ∀ (p : Program) (e : Env) (s : State) (m : MethodId) (below : List Frame) (meth : Method) (c : Code) (Q : State → Prop), CallFix p m c cc nL s av.toArray wd y.cls → RetS p l e rm s m av.toArray below meth c Q cc r →
      ∀ ls : Array Slot, lv_has ls nL (lv_args 0 av) → W p l e rm s m av.toArray below meth c s.heap [] 0 0 Q (F0 m 0 ls [])) : MetS l y wd rm av r := by
  refine va_MetF (cc := cc) (maxL := nL) (ret := some ty) hpl hw ?_
  intro p e s m args below meth c s₁ B hml hv
  subst hv
  have hx := B.exec
  have hb := B.bytes
  have hr := B.returns
  have hts := atoms_spec (ws := wd) B.pre
  have hown : s.vm.findClass y.cls = some m.cls := findClass_of_methodNamed B.named
  have hlocks := B.notSynchronized
  have hl := lv_entry av (n := nL) hn
  rw [lg_entry_eq]
  refine body p e s m below meth c _ ⟨hx, hb, hml, hown, hts⟩ ?_ _ hl
  intro pc ls hdg
  exact W.zret hx hb hr hnar (fun t ht hW => ⟨rfl, ht⟩) (fun q h => absurd h List.not_mem_nil) hdg
theorem blind_G {g : GP} {av : List Value} {ws : va_W} {sz : Nat} : FrameBlind (PcG g av ws sz) := by
  intro a U g' mk q
  obtain ⟨q0, q1, qP, qK, qD, qE⟩ := q
  exact ⟨q0, q1, qP, va_K.moved (u := U) (U := U.calling g' mk a) (Vm.Alike.refl U.vm) qK, qD, va_Nw.same rfl (rfl : U.vm = (U.calling g' mk a).vm) qE.1, va_Nw.same rfl (rfl : U.vm = (U.calling g' mk a).vm) qE.2.1, va_Z.moved (u := U) (U := U.calling g' mk a) (Vm.Alike.refl U.vm) qE.2.2.1, va_T.moved (u := U) (U := U.calling g' mk a) (Vm.Alike.refl U.vm) qE.2.2.2⟩
section Calls
variable {p : Program} {l : Launch} {e : Env} {R : Room} {s : State} {m : MethodId} {args : Array Value} {below : List Frame} {meth : Method} {c : Code} {H : Heap} {locs : List Loc} {Q : State → Prop} {cc bytes : ByteArray} {pc nL maxL n index b : Nat} {ls : Array Slot} {st0 rest As : List Value} {g : GP} {A : Nat → Prop} {Ts ws : List Cond} {own C host : String} {y : MethodName} {ret : Option FieldType} {rm : Room} {wf : St → va_W} {st st' : St}
theorem pre_G (X : Cx p s m args c cc nL Ts own g A) {w : va_W} (hI : IW g A s.heap w H locs) {av : List Value} : ∀ U : State, U.heap = H → s.WarmedH U.vm → PcG g av w H.size av.toArray U :=
  fun U hU hW => ⟨rfl, by rw [hU], by rw [hU]; exact hI.1, va_K.moved hW.alike X.2.1, hI.2.1.weaken (fun _ _ _ _ => trivial), by rw [hU]; exact X.2.2.go hW hI.2.2.1.2.1 (free_all hI)⟩
theorem callV_I {r : Int32} (X : Cx p s m args c cc nL Ts own g A) (hI : IW g A s.heap (wf st) H locs) (hM : MetI l y ws rm g wf (.ref b :: As) st r st') (cw : CallW R s args own C index y bytes maxL ret ws rm 0 0 n) (hv : ∃ cell : Cell, H[b]? = some cell ∧ cell.vm.isStatics = false ∧ s.vm.findClass C = some cell.cls) (hn : As.length = n) (hs : ls.size = nL) (hk : st0 = As.reverse ++ .ref b :: rest) (hW : (rest.map fun v => v.category).sum ≤ 8) (hdg : decode cc pc = .ok (.invokevirtual index, 3))
    (kk : ∀ (H1 : Heap) (locs1 : List Loc), IW g A s.heap (wf st') H1 locs1 → W p l e R s m args below meth c H1 locs1 0 0 Q (F0 m (pc + 3) ls (.int r :: rest))) : W p l e R s m args below meth c H locs 0 0 Q (F0 m pc ls st0) := by
  refine va_calli (va_runV (As := As) (rest := rest) X.1 (hM H.size) cw ⟨blind_G, hv, pre_G X hI⟩ rfl hn hs hk (lv_room hW) hdg ⟨Nat.zero_le _, Nat.zero_le _⟩) hI.2.2.1 (fun q _ h => free_all hI q h) (free_all hI) (fun r' u t H1 locs1 ht hvm hw hB hz hk1 hS => ?_)
  subst hw
  exact kk H1 locs1 ⟨by rw [← ht]; exact hB.1, hB.2.weaken (fun _ _ _ h => free_all hI _ h), hS, hI.2.2.2⟩
theorem callV_L {r : Int64} (X : Cx p s m args c cc nL Ts own g A) (hI : IW g A s.heap (wf st) H locs) (hM : MetL l y ws rm g wf (.ref b :: As) st r st') (cw : CallW R s args own C index y bytes maxL ret ws rm 0 0 n) (hv : ∃ cell : Cell, H[b]? = some cell ∧ cell.vm.isStatics = false ∧ s.vm.findClass C = some cell.cls) (hn : As.length = n) (hs : ls.size = nL) (hk : st0 = As.reverse ++ .ref b :: rest) (hW : (rest.map fun v => v.category).sum ≤ 8) (hdg : decode cc pc = .ok (.invokevirtual index, 3))
    (kk : ∀ (H1 : Heap) (locs1 : List Loc), IW g A s.heap (wf st') H1 locs1 → W p l e R s m args below meth c H1 locs1 0 0 Q (F0 m (pc + 3) ls (.long r :: rest))) : W p l e R s m args below meth c H locs 0 0 Q (F0 m pc ls st0) := by
  refine va_calll (va_runV (As := As) (rest := rest) X.1 (hM H.size) cw ⟨blind_G, hv, pre_G X hI⟩ rfl hn hs hk (lv_room hW) hdg ⟨Nat.zero_le _, Nat.zero_le _⟩) hI.2.2.1 (fun q _ h => free_all hI q h) (free_all hI) (fun r' u t H1 locs1 ht hvm hw hB hz hk1 hS => ?_)
  subst hw
  exact kk H1 locs1 ⟨by rw [← ht]; exact hB.1, hB.2.weaken (fun _ _ _ h => free_all hI _ h), hS, hI.2.2.2⟩
theorem callV_V (X : Cx p s m args c cc nL Ts own g A) (hI : IW g A s.heap (wf st) H locs) (hM : MetV l y ws rm g wf (.ref b :: As) st st') (cw : CallW R s args own C index y bytes maxL ret ws rm 0 0 n) (hv : ∃ cell : Cell, H[b]? = some cell ∧ cell.vm.isStatics = false ∧ s.vm.findClass C = some cell.cls) (hn : As.length = n) (hs : ls.size = nL) (hk : st0 = As.reverse ++ .ref b :: rest) (hW : (rest.map fun v => v.category).sum ≤ 8) (hdg : decode cc pc = .ok (.invokevirtual index, 3))
    (kk : ∀ (H1 : Heap) (locs1 : List Loc), IW g A s.heap (wf st') H1 locs1 → W p l e R s m args below meth c H1 locs1 0 0 Q (F0 m (pc + 3) ls rest)) : W p l e R s m args below meth c H locs 0 0 Q (F0 m pc ls st0) := by
  refine va_callv (va_runV (As := As) (rest := rest) X.1 (hM H.size) cw ⟨blind_G, hv, pre_G X hI⟩ rfl hn hs hk (lv_room hW) hdg ⟨Nat.zero_le _, Nat.zero_le _⟩) hI.2.2.1 (fun q _ h => free_all hI q h) (free_all hI) (fun u t H1 locs1 ht hvm hw hB hz hk1 hS => ?_)
  exact kk H1 locs1 ⟨by rw [← ht]; exact hB.1, hB.2.weaken (fun _ _ _ h => free_all hI _ h), hS, hI.2.2.2⟩
theorem callV_R {r : Nat} (X : Cx p s m args c cc nL Ts own g A) (hI : IW g A s.heap (wf st) H locs) (hM : MetR l y ws rm g wf (.ref b :: As) st r st') (cw : CallW R s args own C index y bytes maxL ret ws rm 0 0 n) (hv : ∃ cell : Cell, H[b]? = some cell ∧ cell.vm.isStatics = false ∧ s.vm.findClass C = some cell.cls) (hn : As.length = n) (hs : ls.size = nL) (hk : st0 = As.reverse ++ .ref b :: rest) (hW : (rest.map fun v => v.category).sum ≤ 8) (hdg : decode cc pc = .ok (.invokevirtual index, 3))
    (kk : ∀ (H1 : Heap) (locs1 : List Loc), IW g A s.heap (wf st') H1 locs1 → W p l e R s m args below meth c H1 locs1 0 0 Q (F0 m (pc + 3) ls (.ref r :: rest))) : W p l e R s m args below meth c H locs 0 0 Q (F0 m pc ls st0) := by
  refine va_callr (va_runV (As := As) (rest := rest) X.1 (hM H.size) cw ⟨blind_G, hv, pre_G X hI⟩ rfl hn hs hk (lv_room hW) hdg ⟨Nat.zero_le _, Nat.zero_le _⟩) hI.2.2.1 (fun q _ h => free_all hI q h) (free_all hI) (fun u ra t H1 locs1 ht hvm hw hB hz hk1 hS => ?_)
  obtain ⟨rfl, hB1, hB2⟩ := hB
  exact kk H1 locs1 ⟨by rw [← ht]; exact hB1, hB2.weaken (fun _ _ _ h => free_all hI _ h), hS, hI.2.2.2⟩
theorem callS_S {r : Int32} (S : CallFix p m c cc nL s args Ts own) (hM : MetS l y ws rm As r) (cw : CallB R s args own index y bytes maxL ret ws rm 0 0 n ∧ (Cond.static y).before args s = true) (hn : As.length = n) (hs : ls.size = nL) (hk : st0 = As.reverse ++ rest) (hW : (rest.map fun v => v.category).sum ≤ 8) (hdg : decode cc pc = .ok (.invokestatic index, 3))
    (kk : W p l e R s m args below meth c H locs 0 0 Q (F0 m (pc + 3) ls (.int r :: rest))) : W p l e R s m args below meth c H locs 0 0 Q (F0 m pc ls st0) :=
  W.callR (va_Run.run (va_runS (As := As) (rest := rest) S hM cw preEq rfl hn hs hk (lv_room hW) hdg ⟨Nat.zero_le _, Nat.zero_le _⟩)) kk
theorem callN_S {r : Int32} (S : CallFix p m c cc nL s args Ts own) (hM : MetS l y ws rm As r) (cw : va_CN R s args own index y host bytes maxL ret ws rm 0 0 n ∧ (Cond.static y).before args s = true ∧ True) (hn : As.length = n) (hs : ls.size = nL) (hk : st0 = As.reverse ++ rest) (hW : (rest.map fun v => v.category).sum ≤ 8) (hdg : decode cc pc = .ok (.invokestatic index, 3))
    (kk : W p l e R s m args below meth c H locs 0 0 Q (F0 m (pc + 3) ls (.int r :: rest))) : W p l e R s m args below meth c H locs 0 0 Q (F0 m pc ls st0) :=
  W.callR (va_Run.run (va_runSN (As := As) (rest := rest) S hM cw preEq rfl hn hs hk (lv_room hW) hdg ⟨Nat.zero_le _, Nat.zero_le _⟩)) kk
end Calls
/-! the reference's world: its object, its ten rows of ints -/
def mlen (c : Nat) : Nat := match c with | 0 => 116 | 1 => 116 | 2 => 4 | 3 => 4 | 4 => 48 | 5 => 12 | 6 => 10 | 7 => 10 | 8 => 11 | _ => 10
def mfs (am : Nat → Nat) (ms : St) : List Value := [.ref (am 1), .ref (am 2), .int (ms 10 0), .int (ms 10 1), .ref (am 3), .ref (am 4), .ref (am 5), .ref (am 6), .int (ms 10 2), .int (ms 10 3), .ref (am 7), .ref (am 8), .ref (am 9), .ref (am 10), .int (ms 10 4), .int (ms 10 5)]
def wM (g : GP) (am : Nat → Nat) (ms : St) : va_W := (am 0, .inr (6, mfs am ms)) :: (List.range 10).map (fun c => (am (c + 1), .inl (g.2.1 0, mlen c, .inl (ms c))))
def wMX (g : GP) (X : va_W) (am : Nat → Nat) (ms : St) : va_W := X ++ wM g am ms
theorem wM_ob {g : GP} {X : va_W} {am : Nat → Nat} {ms : St} : (wMX g X am ms)[X.length]? = some (am 0, .inr (6, mfs am ms)) := by
  unfold wMX wM
  rw [List.getElem?_append_right (Nat.le_refl _), Nat.sub_self]
  rfl
theorem wM_ar {g : GP} {X : va_W} {am : Nat → Nat} {ms : St} {cn : Nat} (hc : cn < 10) : (wMX g X am ms)[X.length + (cn + 1)]? = some (am (cn + 1), .inl (g.2.1 0, mlen cn, .inl (ms cn))) := by
  unfold wMX wM
  rw [List.getElem?_append_right (Nat.le_add_right _ _), Nat.add_sub_cancel_left, List.getElem?_cons_succ, List.getElem?_map, List.getElem?_range hc]
  rfl
theorem wM_setar {g : GP} {X : va_W} {am : Nat → Nat} {ms : St} {cn : Nat} (hc : cn < 10) (f : Nat → Int32) : (wMX g X am ms).set (X.length + (cn + 1)) (am (cn + 1), .inl (g.2.1 0, mlen cn, .inl f)) = wMX g X am (sF ms cn f) := by
  unfold wMX
  rw [List.set_append_right _ _ (Nat.le_add_right _ _), Nat.add_sub_cancel_left]
  congr 1
  match cn, hc with
  | 0, _ => rfl
  | 1, _ => rfl
  | 2, _ => rfl
  | 3, _ => rfl
  | 4, _ => rfl
  | 5, _ => rfl
  | 6, _ => rfl
  | 7, _ => rfl
  | 8, _ => rfl
  | 9, _ => rfl
theorem wM_setob {g : GP} {X : va_W} {am : Nat → Nat} {ms : St} {fs : List Value} {j : Nat} {v : Int32} (h : fs = mfs am (sU ms 10 j v)) : (wMX g X am ms).set X.length (am 0, .inr (6, fs)) = wMX g X am (sU ms 10 j v) := by
  subst h
  unfold wMX
  rw [List.set_append_right _ _ (Nat.le_refl _), Nat.sub_self]
  congr 1
section Rows
variable {p : Program} {l : Launch} {e : Env} {R : Room} {s : State} {m : MethodId} {args : Array Value} {below : List Frame} {meth : Method} {c : Code} {H : Heap} {locs : List Loc} {Q : State → Prop} {cc : ByteArray} {pc nL index : Nat} {ls : Array Slot} {rest : List Value} {g : GP} {A : Nat → Prop} {Ts : List Cond} {own ref CN : String} {T : u_T} {N ci a n : Nat} {fs : List Value} {wf : St → va_W} {st st1 : St} {β : Type}
theorem gen_i {x : Int32} {kf : Int32 → β} {res : β} (h : bnd x kf = res) (kk : ∀ y : Int32, kf y = res → W p l e R s m args below meth c H locs 0 0 Q (F0 m pc ls (.int y :: rest))) : W p l e R s m args below meth c H locs 0 0 Q (F0 m pc ls (.int x :: rest)) := kk x h
theorem gen_b {x : Bool} {kf : Bool → β} {res : β} (h : bnd x kf = res) (kk : ∀ y : Bool, kf y = res → W p l e R s m args below meth c H locs 0 0 Q (F0 m pc ls (.int (b2i y) :: rest))) : W p l e R s m args below meth c H locs 0 0 Q (F0 m pc ls (.int (b2i x) :: rest)) := kk x h
theorem gen_l {x : Int64} {kf : Int64 → β} {res : β} (h : bnd x kf = res) (kk : ∀ y : Int64, kf y = res → W p l e R s m args below meth c H locs 0 0 Q (F0 m pc ls (.long y :: rest))) : W p l e R s m args below meth c H locs 0 0 Q (F0 m pc ls (.long x :: rest)) := kk x h
theorem gen_q {q : Nat → Prop} {fa : Nat → Nat} {x : Nat} {kf : Nat → β} {res : β} (h : bnd x kf = res) (hq : q x) (kk : ∀ y : Nat, q y → kf y = res → W p l e R s m args below meth c H locs 0 0 Q (F0 m pc ls (.ref (fa y) :: rest))) : W p l e R s m args below meth c H locs 0 0 Q (F0 m pc ls (.ref (fa x) :: rest)) := kk x hq h
theorem w_cpy {c0 c1 p0 p1 a0 n0 n1 : Nat} {sp dp k : Int32} (C : Cx p s m args c cc nL Ts own g A) (hI : IW g A s.heap (wf st) H locs) (hml : ls.size = nL) (hlink : (Cond.methodLink own index arraycopyName).before args s = true) (hcpx : (Cond.native arraycopyName).before args s = true ∧ (Cond.static arraycopyName).before args s = true ∧ (Cond.initialized "java/lang/System").before args s = true) (p0 p1 : Nat) (h0 : (wf st)[p0]? = some (a0, .inl (g.2.1 0, n0, .inl (st c0)))) (h1 : (wf st)[p1]? = some (a, .inl (g.2.1 0, n1, .inl (st c1)))) (hset : ∀ f : Nat → Int32, (wf st).set p1 (a, .inl (g.2.1 0, n1, .inl f)) = wf (sF st c1 f)) {kf : St → Option β} {res : β} (h : acp n0 n1 st c0 c1 sp dp k kf = some res) (hfr : 1 ≤ R.frames) (hlo : (rest.map fun v => v.category).sum + (nativeFrameWords "java/lang/System" "arraycopy" 5 + 11) ≤ R.locals) (hdg : decode cc pc = .ok (.invokestatic index, 3))
    (kk : ∀ (ms1 : St) (H1 : Heap) (locs1 : List Loc), kf ms1 = some res → IW g A s.heap (wf ms1) H1 locs1 → W p l e R s m args below meth c H1 locs1 0 0 Q (F0 m (pc + 3) ls rest)) : W p l e R s m args below meth c H locs 0 0 Q (F0 m pc ls (.int k :: .int dp :: .ref a :: .int sp :: .ref a0 :: rest)) := by
  unfold acp at h
  by_cases hc : sp < 0 ∨ dp < 0 ∨ k < 0 ∨ n0 < sp.toNatClampNeg + k.toNatClampNeg ∨ n1 < dp.toNatClampNeg + k.toNatClampNeg
  · rw [if_pos hc] at h; cases h
  · rw [if_neg hc] at h
    refine va_copyi (ty := .int) C.1.1 C.1.2.1 (C.1.2.2.1.trans hml.symm) C.1.2.2.2.1 hlink hcpx.1 hcpx.2.1 hcpx.2.2 C.2.1 hI.1 hI.2.1 hI.2.2.1 p0 p1 0 0 h0 h1 rfl rfl rfl (fun z => hc (Or.inl z)) (fun z => hc (Or.inr (Or.inl z))) (fun z => hc (Or.inr (Or.inr (Or.inl z)))) (Nat.le_of_not_lt (fun z => hc (Or.inr (Or.inr (Or.inr (Or.inl z)))))) (Nat.le_of_not_lt (fun z => hc (Or.inr (Or.inr (Or.inr (Or.inr z)))))) (fun _ _ => rfl) hfr hlo hdg (fun H1 locs1 hP hD hS => ?_)
    rw [hset] at hP hD
    exact kk _ H1 locs1 h ⟨hP, hD, hS, hI.2.2.2⟩
theorem w_get (C : Cx p s m args c cc nL Ts own g A) (hin : ∀ w ∈ u_ws CN T N, w ∈ Ts) (hI : IW g A s.heap (wf st) H locs) (q0 : Nat) (he : (wf st)[q0]? = some (a, .inr (ci, fs))) (hc : vwCl[ci]? = some (CN, T, N)) (k : Nat) (hk : k < N) (hlink : (Cond.fieldLink own index ref (T k).2.1 (T k).2.2.1).before args s = true) (hs6 : (T k).1 = ref) {v : Value} (hv : fs[k]? = some v) (hdg : decode cc pc = .ok (.getfield index, 3))
    (kk : W p l e R s m args below meth c H locs 0 0 Q (F0 m (pc + 3) ls (v :: rest))) : W p l e R s m args below meth c H locs 0 0 Q (F0 m pc ls (.ref a :: rest)) :=
  va_get (D := g.1) (ci := ci) (v := v) (C := CN) (T := T) (N := N) C.1.1 C.1.2.1 C.1.2.2.2.2 hin C.1.2.2.2.1 C.2.1 hI.1 q0 he hc k hk hlink (fun _ h9 => by rw [hs6] at h9; exact h9) hv hdg kk
theorem w_put (C : Cx p s m args c cc nL Ts own g A) (hin : ∀ w ∈ u_ws CN T N, w ∈ Ts) (ty0 : Nat → FieldType) (hty : ∀ k, k < N → parseFieldDescriptor (T k).2.2.1 = some (ty0 k)) (hnm : ∀ a, a < N → ∀ b, b < N → a ≠ b → (T a).2.1 ≠ (T b).2.1) (hI : IW g A s.heap (wf st) H locs) (q0 : Nat) (he : (wf st)[q0]? = some (a, .inr (ci, fs))) (hc : vwCl[ci]? = some (CN, T, N)) (k : Nat) {v : Int32} {kf : St → β} {res : β} (h : bnd st1 kf = res) (hset : (wf st).set q0 (a, .inr (ci, fs.set k (.int v))) = wf st1) (hk : k < N) (hl : k < fs.length) (hlink : (Cond.fieldLink own index ref (T k).2.1 (T k).2.2.1).before args s = true) (hs6 : (T k).1 = ref ∧ (T k).2.2.2 = false) (hn : narrow (ty0 k) (.int v) = .int v) (hfit : fits (ty0 k) (.int v) = true) (hdg : decode cc pc = .ok (.putfield index, 3))
    (kk : ∀ (ms1 : St) (H1 : Heap) (locs1 : List Loc), kf ms1 = res → IW g A s.heap (wf ms1) H1 locs1 → W p l e R s m args below meth c H1 locs1 0 0 Q (F0 m (pc + 3) ls rest)) : W p l e R s m args below meth c H locs 0 0 Q (F0 m pc ls (.int v :: .ref a :: rest)) := by
  refine va_put (D := g.1) (ci := ci) (v := .int v) (ty := ty0 k) (C := CN) (T := T) (N := N) C.1.1 C.1.2.1 C.1.2.2.2.2 hin ty0 hty hnm C.1.2.2.2.1 C.2.1 hI.1 hI.2.1 hI.2.2.1 q0 he hc k hk hlink (fun _ h9 => by rw [hs6.1] at h9; exact h9) hs6.2 (hty k hk) hn hfit hl hdg (fun H1 locs1 hP hD hS => ?_)
  rw [hset] at hP hD
  exact kk st1 H1 locs1 h ⟨hP, hD, hS, hI.2.2.2⟩
theorem w_ld {f : Nat → Int32} (C : Cx p s m args c cc nL Ts own g A) (hI : IW g A s.heap (wf st) H locs) (q0 : Nat) (he : (wf st)[q0]? = some (a, .inl (g.2.1 0, n, .inl f))) {i : Int32} {kf : Nat → Option β} {res : β} (h : ck n i kf = some res) (hdg : decode cc pc = .ok (.iaload, 1))
    (kk : ∀ j : Nat, j < n → kf j = some res → W p l e R s m args below meth c H locs 0 0 Q (F0 m (pc + 1) ls (.int (f j) :: rest))) : W p l e R s m args below meth c H locs 0 0 Q (F0 m pc ls (.int i :: .ref a :: rest)) := by
  obtain ⟨hv, hj, h⟩ := ck_some h
  exact va_iald C.1.1 C.1.2.1 C.2.1 hI.1 q0 0 he rfl hv hdg (kk _ hj h)
theorem w_ldK {f : Nat → Int32} (C : Cx p s m args c cc nL Ts own g A) (hI : IW g A s.heap (wf st) H locs) (q0 : Nat) (he : (wf st)[q0]? = some (a, .inl (g.2.1 0, n, .inl f))) (j : Nat) {i : Int32} (hv : decide (i < 0 ∨ n ≤ i.toNatClampNeg) = false) (hj : i.toNatClampNeg = j) (hdg : decode cc pc = .ok (.iaload, 1))
    (kk : W p l e R s m args below meth c H locs 0 0 Q (F0 m (pc + 1) ls (.int (f j) :: rest))) : W p l e R s m args below meth c H locs 0 0 Q (F0 m pc ls (.int i :: .ref a :: rest)) := by
  subst hj
  exact va_iald C.1.1 C.1.2.1 C.2.1 hI.1 q0 0 he rfl (vpk hv) hdg kk
theorem w_ldZ {f : Nat → Int32} (C : Cx p s m args c cc nL Ts own g A) (hI : IW g A s.heap (wf st) H locs) (q0 : Nat) (he : (wf st)[q0]? = some (a, .inl (g.2.1 1, n, .inl f))) {i : Int32} {kf : Nat → Option β} {res : β} (h : ck n i kf = some res) (hdg : decode cc pc = .ok (.baload, 1))
    (kk : ∀ j : Nat, j < n → kf j = some res → W p l e R s m args below meth c H locs 0 0 Q (F0 m (pc + 1) ls (.int (f j) :: rest))) : W p l e R s m args below meth c H locs 0 0 Q (F0 m pc ls (.int i :: .ref a :: rest)) := by
  obtain ⟨hv, hj, h⟩ := ck_some h
  exact va_zald C.1.1 C.1.2.1 C.2.1 hI.1 q0 1 he rfl hv hdg (kk _ hj h)
theorem w_st {cn : Nat} (C : Cx p s m args c cc nL Ts own g A) (hI : IW g A s.heap (wf st) H locs) (q0 : Nat) (he : (wf st)[q0]? = some (a, .inl (g.2.1 0, n, .inl (st cn)))) (hset : ∀ f : Nat → Int32, (wf st).set q0 (a, .inl (g.2.1 0, n, .inl f)) = wf (sF st cn f)) {i x : Int32} {kf : St → Option β} {res : β} (h : sto n st cn i x kf = some res) (hdg : decode cc pc = .ok (.iastore, 1))
    (kk : ∀ (ms1 : St) (H1 : Heap) (locs1 : List Loc), kf ms1 = some res → IW g A s.heap (wf ms1) H1 locs1 → W p l e R s m args below meth c H1 locs1 0 0 Q (F0 m (pc + 1) ls rest)) : W p l e R s m args below meth c H locs 0 0 Q (F0 m pc ls (.int x :: .int i :: .ref a :: rest)) := by
  obtain ⟨hv, hj, h⟩ := ck_some h
  refine va_iast C.1.1 C.1.2.1 C.2.1 hI.1 hI.2.1 hI.2.2.1 q0 0 he rfl hv hdg (fun H1 locs1 hP hD hS => ?_)
  rw [hset] at hP hD
  exact kk _ H1 locs1 h ⟨hP, hD, hS, hI.2.2.2⟩
theorem w_stK {cn : Nat} (C : Cx p s m args c cc nL Ts own g A) (hI : IW g A s.heap (wf st) H locs) (q0 : Nat) (he : (wf st)[q0]? = some (a, .inl (g.2.1 0, n, .inl (st cn)))) (hset : ∀ f : Nat → Int32, (wf st).set q0 (a, .inl (g.2.1 0, n, .inl f)) = wf (sF st cn f)) (j : Nat) {i x : Int32} {kf : St → β} {res : β} (h : bnd (sU st cn j x) kf = res) (hv : decide (i < 0 ∨ n ≤ i.toNatClampNeg) = false) (hj : i.toNatClampNeg = j) (hdg : decode cc pc = .ok (.iastore, 1))
    (kk : ∀ (ms1 : St) (H1 : Heap) (locs1 : List Loc), kf ms1 = res → IW g A s.heap (wf ms1) H1 locs1 → W p l e R s m args below meth c H1 locs1 0 0 Q (F0 m (pc + 1) ls rest)) : W p l e R s m args below meth c H locs 0 0 Q (F0 m pc ls (.int x :: .int i :: .ref a :: rest)) := by
  subst hj
  refine va_iast C.1.1 C.1.2.1 C.2.1 hI.1 hI.2.1 hI.2.2.1 q0 0 he rfl (vpk hv) hdg (fun H1 locs1 hP hD hS => ?_)
  rw [hset] at hP hD
  exact kk (sU st cn i.toNatClampNeg x) H1 locs1 h ⟨hP, hD, hS, hI.2.2.2⟩
theorem w_stZ {cn : Nat} (C : Cx p s m args c cc nL Ts own g A) (hI : IW g A s.heap (wf st) H locs) (q0 : Nat) (he : (wf st)[q0]? = some (a, .inl (g.2.1 1, n, .inl (st cn)))) (hset : ∀ f : Nat → Int32, (wf st).set q0 (a, .inl (g.2.1 1, n, .inl f)) = wf (sF st cn f)) {i x : Int32} (hx : vp_nar .boolean x = x) {kf : St → Option β} {res : β} (h : sto n st cn i x kf = some res) (hdg : decode cc pc = .ok (.bastore, 1))
    (kk : ∀ (ms1 : St) (H1 : Heap) (locs1 : List Loc), kf ms1 = some res → IW g A s.heap (wf ms1) H1 locs1 → W p l e R s m args below meth c H1 locs1 0 0 Q (F0 m (pc + 1) ls rest)) : W p l e R s m args below meth c H locs 0 0 Q (F0 m pc ls (.int x :: .int i :: .ref a :: rest)) := by
  obtain ⟨hv, hj, h⟩ := ck_some h
  refine va_zast C.1.1 C.1.2.1 C.2.1 hI.1 hI.2.1 hI.2.2.1 q0 1 he rfl hv hdg (fun H1 locs1 hP hD hS => ?_)
  rw [hset, hx] at hP hD
  exact kk _ H1 locs1 h ⟨hP, hD, hS, hI.2.2.2⟩
theorem w_ald {t0 : Nat} {cA : ClassId} {f : Nat → Option Nat} {fa : Nat → Nat} (C : Cx p s m args c cc nL Ts own g A) (hI : IW g A s.heap (wf st) H locs) (q0 : Nat) (he : (wf st)[q0]? = some (a, .inl (cA, n, .inr (.inr (.inr (.inr f)))))) (ht : (tyG g)[t0]? = some (cA, .object CN)) (hf : ∀ j, f j = some (fa j)) {i : Int32} {kf : Nat → Option β} {res : β} (h : ck n i kf = some res) (hdg : decode cc pc = .ok (.aaload, 1))
    (kk : ∀ j : Nat, j < n → kf j = some res → W p l e R s m args below meth c H locs 0 0 Q (F0 m (pc + 1) ls (.ref (fa j) :: rest))) : W p l e R s m args below meth c H locs 0 0 Q (F0 m pc ls (.int i :: .ref a :: rest)) := by
  obtain ⟨hv, hj, h⟩ := ck_some h
  refine va_aldq C.1.1 C.1.2.1 C.2.1 hI.1 q0 t0 he ht hv hdg ?_
  rw [hf]
  exact kk _ hj h
theorem w_recv (C : Cx p s m args c cc nL Ts own g A) (hI : IW g A s.heap (wf st) H locs) (q0 : Nat) (he : (wf st)[q0]? = some (a, .inr (ci, fs))) (hc : vwCl[ci]? = some (CN, T, N)) : ∃ cell : Cell, H[a]? = some cell ∧ cell.vm.isStatics = false ∧ s.vm.findClass CN = some cell.cls :=
  va_recv C.2.1 hI.1 (ci := ci) (q0 := q0) hc he
theorem w_kast (C : Cx p s m args c cc nL Ts own g A) (hI : IW g A s.heap (wf st) H locs) (hown : own = RX1) (hlink : (Cond.fieldLink own index "GraveRows$Grave" "KIND_ABOVE" "[I").before args s = true) (hdg : decode cc pc = .ok (.getstatic index, 3))
    (kk : W p l e R s m args below meth c H locs 0 0 Q (F0 m (pc + 3) ls (.ref g.2.2 :: rest))) : W p l e R s m args below meth c H locs 0 0 Q (F0 m pc ls rest) :=
  va_gets C.1.1 C.1.2.1 C.2.2.2.2.1 hI.2.2.1 C.1.2.2.2.1 hlink (fun _ h => h) hdg kk
theorem w_kald (C : Cx p s m args c cc nL Ts own g A) (hI : IW g A s.heap (wf st) H locs) {i : Int32} {kf : Nat → Option β} {res : β} (h : ck 4 i kf = some res) (hdg : decode cc pc = .ok (.iaload, 1))
    (kk : ∀ j : Nat, j < 4 → kf j = some res → W p l e R s m args below meth c H locs 0 0 Q (F0 m (pc + 1) ls (.int (kai j) :: rest))) : W p l e R s m args below meth c H locs 0 0 Q (F0 m pc ls (.int i :: .ref g.2.2 :: rest)) := by
  obtain ⟨hv, hj, h⟩ := ck_some h
  exact va_ti C.1.1 C.1.2.1 C.2.2.2.2.2 hI.2.2.1 hv rfl hdg (kk _ hj h)
end Rows
end
section
/-! X6_within -/
def rmX6_within : Room := { frames := 0, cells := 0, slots := 0, locals := 0 }
def f_X6_within (x0 : Int32) (x1 : Int32) (x2 : Int32) : Bool := if x0 < x1 then false else if x2 < x0 then false else true
set_option maxHeartbeats 4000000 in
set_option maxRecDepth 100000 in
theorem c_X6_within (l : Launch) (x0 : Int32) (x1 : Int32) (x2 : Int32) : MetS l yX6_within wsX6_within rmX6_within [.int x0, .int x1, .int x2] (b2i (f_X6_within x0 x1 x2)) := by
  refine metS_of (cc := cX6_within) (nL := 3) (ty := .boolean) (by decide) rfl (Nat.le_of_ble_eq_true rfl) (nar_b _) ?_
  intro p e s m below meth c Q C hret ls hl
  have C : CallFix p m c cX6_within 3 s _ wsX6_within RX6 := C
  obtain ⟨hx, hb, hml, hown, hts⟩ := id C
  have hl : lv_has ls 3 [(0, .int x0), (1, .int x1), (2, .int x2)] := hl
  generalize hgen : f_X6_within x0 x1 x2 = r at hret
  have h := hgen
  rw [f_X6_within] at h
  refine lv_iload_n hx hb dX6_within_0 rfl (lv_at hl 0 rfl) ?_
  refine lv_iload_n hx hb dX6_within_1 rfl (lv_at hl 1 rfl) ?_
  refine lv_icmp_lt (tgt := 14) hx hb dX6_within_2 (by decide) (fun c_1 => ?_) (fun c_1 => ?_)
  · replace h := (if_pos c_1).symm.trans h
    refine lv_iconst (v := 0) hx hb dX6_within_14 (by decide) ?_
    subst h
    exact hret _ ls dX6_within_15
  · replace h := (if_neg c_1).symm.trans h
    refine lv_iload_n hx hb dX6_within_5 rfl (lv_at hl 0 rfl) ?_
    refine lv_iload_n hx hb dX6_within_6 rfl (lv_at hl 2 rfl) ?_
    refine lv_icmp_gt (tgt := 14) hx hb dX6_within_7 (by decide) (fun c_2 => ?_) (fun c_2 => ?_)
    · replace h := (if_pos c_2).symm.trans h
      refine lv_iconst (v := 0) hx hb dX6_within_14 (by decide) ?_
      subst h
      exact hret _ ls dX6_within_15
    · replace h := (if_neg c_2).symm.trans h
      refine lv_iconst (v := 1) hx hb dX6_within_10 (by decide) ?_
      refine lv_goto (tgt := 15) hx hb dX6_within_11 (by decide) ?_
      subst h
      exact hret _ ls dX6_within_15
theorem hd_X6_within : yX6_within.cls ≠ "java/lang/invoke/MethodHandle" ∧ yX6_within.cls ≠ "java/lang/invoke/VarHandle" ∧ (parseMethodDescriptor yX6_within.desc).map (fun d => d.parameters.length) = some 3 := by decide +kernel
/-! X6_isGrave -/
def rmX6_isGrave : Room := { frames := 1, cells := 0, slots := 0, locals := 22 }
def f_X6_isGrave (st : St) (x1 : Int32) : Bool := bnd (f_X6_within x1 0 ((st 0 0) - 1)) fun r_1 => r_1
set_option maxHeartbeats 4000000 in
set_option maxRecDepth 100000 in
theorem c_X6_isGrave (l : Launch) (g : GP) (X : va_W) (am : Nat → Nat) (x1 : Int32)  (st : St) : MetI l yX6_isGrave wsX6_isGrave rmX6_isGrave g (wMX g X am) [.ref (am 0), .int x1] st (b2i (f_X6_isGrave st x1)) st := by
  refine metI_of (cc := cX6_isGrave) (nL := 2) (ty := .boolean) (by decide) rfl (Nat.le_of_ble_eq_true rfl) (nar_b _) ?_
  intro p e s m below meth c Q A C hret H locs hI ls hl
  have C : Cx p s m _ c cX6_isGrave 2 wsX6_isGrave RX6 g A := C
  obtain ⟨hx, hb, hml, hown, hts⟩ := id C.1
  have hl : lv_has ls 2 [(0, .ref (am 0)), (1, .int x1)] := hl
  have hinRX6 : ∀ w ∈ u_ws RX6 TX6 16, w ∈ wsX6_isGrave := by decide +kernel
  have lk9 := hts (.fieldLink RX6 9 "GraveRowsModel" "now" "[I") (by decide +kernel)
  generalize hgen : f_X6_isGrave st x1 = r at hret
  have h := hgen
  rw [f_X6_isGrave] at h
  refine lv_iload_n hx hb dX6_isGrave_0 rfl (lv_at hl 1 rfl) ?_
  refine lv_iconst (v := 0) hx hb dX6_isGrave_1 (by decide) ?_
  refine lv_aload_n hx hb dX6_isGrave_2 rfl (lv_at hl 0 rfl) ?_
  refine w_get (v := .ref (am 1)) C hinRX6 hI X.length wM_ob rfl 0 (by decide) lk9 rfl rfl dX6_isGrave_3 ?_
  refine lv_iconst (v := 0) hx hb dX6_isGrave_6 (by decide) ?_
  refine w_ldK C hI (X.length + (0 + 1)) (wM_ar (by decide)) 0 (by decide) (by decide) dX6_isGrave_7 ?_
  refine lv_iconst (v := 1) hx hb dX6_isGrave_8 (by decide) ?_
  refine lv_isub hx hb dX6_isGrave_9 ?_
  refine callS_S (rest := []) C.1 (c_X6_within l x1 0 ((st 0 0) - 1)) (va_cwS 3 hts gX6_isGrave_X6_within rfl rfl rfl hd_X6_within ⟨Nat.le_of_ble_eq_true rfl, Nat.le_of_ble_eq_true rfl⟩) rfl hl.1 rfl (Nat.le_of_ble_eq_true rfl) dX6_isGrave_10 ?_
  refine gen_b h (fun r_1 h => ?_)
  subst h
  exact hret H locs _ ls hI dX6_isGrave_13
theorem hv_X6_isGrave : yX6_isGrave.cls = RX6 ∧ yX6_isGrave.cls ≠ "java/lang/invoke/MethodHandle" ∧ yX6_isGrave.cls ≠ "java/lang/invoke/VarHandle" ∧ (parseMethodDescriptor yX6_isGrave.desc).map (fun d => d.parameters.length) = some 1 := by decide +kernel
/-! X6_many -/
def rmX6_many : Room := { frames := 0, cells := 0, slots := 0, locals := 0 }
def f_X6_many_L4 (N : Nat) (x0 : Int32) (k : Int32 → Int32 → Option (Int32)) : Nat → Int32 → Int32 → Option (Int32)
  | 0, _, _ => none
  | n + 1, x1, x2 => if 32 ≤ x2 then k x1 x2 else bnd (x1 + ((ush x0 x2) &&& 1)) fun v_2 => f_X6_many_L4 N x0 k n v_2 (x2 + 1)
def f_X6_many (N : Nat) (x0 : Int32) : Option (Int32) := f_X6_many_L4 N x0 (fun a_3 a_4 => some a_3) N 0 0
set_option maxHeartbeats 4000000 in
set_option maxRecDepth 100000 in
theorem wl_X6_many_L4 {p : Program} {l : Launch} {e : Env} {s : State} {m : MethodId} {args : Array Value} {below : List Frame} {meth : Method} {c : Code} {Q : State → Prop} {r : Int32}  (C : CallFix p m c cX6_many 3 s args wsX6_many RX6) (hret : RetS p l e rmX6_many s m args below meth c Q cX6_many (r)) (N : Nat) (x0 : Int32)  (k : Int32 → Int32 → Option (Int32)) (hk : ∀ (x1 : Int32) (x2 : Int32) (ls : Array Slot), k x1 x2 = some r → lv_has ls 3 [(0, .int x0), (1, .int x1), (2, .int x2)] → W p l e rmX6_many s m args below meth c s.heap [] 0 0 Q (F0 m 24 ls [])) : ∀ (n : Nat) (x1 : Int32) (x2 : Int32) (ls : Array Slot), f_X6_many_L4 N x0 k n x1 x2 = some r → lv_has ls 3 [(0, .int x0), (1, .int x1), (2, .int x2)] → W p l e rmX6_many s m args below meth c s.heap [] 0 0 Q (F0 m 4 ls []) := by
  obtain ⟨hx, hb, hml, hown, hts⟩ := id C
  intro n
  induction n with
  | zero =>
    intro x1 x2 ls h hl
    rw [f_X6_many_L4] at h
    cases h
  | succ n ih =>
    intro x1 x2 ls h hl
    rw [f_X6_many_L4] at h
    refine lv_iload_n hx hb dX6_many_4 rfl (lv_at hl 2 rfl) ?_
    refine lv_bipush (v := 32) hx hb dX6_many_5 (by decide) ?_
    refine lv_icmp_ge (tgt := 24) hx hb dX6_many_7 (by decide) (fun c_1 => ?_) (fun c_1 => ?_)
    · replace h := (if_pos c_1).symm.trans h
      exact hk _ _ _ h (lv_sub hl [0, 1, 2] rfl)
    · replace h := (if_neg c_1).symm.trans h
      refine lv_iload_n hx hb dX6_many_10 rfl (lv_at hl 1 rfl) ?_
      refine lv_iload_n hx hb dX6_many_11 rfl (lv_at hl 0 rfl) ?_
      refine lv_iload_n hx hb dX6_many_12 rfl (lv_at hl 2 rfl) ?_
      refine lv_iushr (v := ush x0 x2) hx hb dX6_many_13 rfl ?_
      refine lv_iconst (v := 1) hx hb dX6_many_14 (by decide) ?_
      refine lv_iand hx hb dX6_many_15 ?_
      refine lv_iadd hx hb dX6_many_16 ?_
      refine gen_i h (fun v_2 h => ?_)
      refine lv_istore_n (lv' := [(1, .int v_2), (0, .int x0), (2, .int x2)]) hx hb dX6_many_17 rfl hl (by decide) rfl (fun ls hl => ?_)
      refine lv_iinc (v := x2 + 1) (lv' := [(2, .int (x2 + 1)), (1, .int v_2), (0, .int x0)]) hx hb dX6_many_18 hl (k := 2) rfl rfl (by decide) rfl (fun ls hl => ?_)
      refine lv_goto (tgt := 4) hx hb dX6_many_21 (by decide) ?_
      exact ih _ _ _ h (lv_sub hl [2, 1, 0] rfl)
set_option maxHeartbeats 4000000 in
set_option maxRecDepth 100000 in
theorem c_X6_many (l : Launch) (N : Nat) (x0 : Int32) {r : Int32}  (h : f_X6_many N x0 = some r) : MetS l yX6_many wsX6_many rmX6_many [.int x0] (r) := by
  refine metS_of (cc := cX6_many) (nL := 3) (ty := .int) (by decide) rfl (Nat.le_of_ble_eq_true rfl) rfl ?_
  intro p e s m below meth c Q C hret ls hl
  have C : CallFix p m c cX6_many 3 s _ wsX6_many RX6 := C
  obtain ⟨hx, hb, hml, hown, hts⟩ := id C
  have hl : lv_has ls 3 [(0, .int x0)] := hl
  rw [f_X6_many] at h
  refine lv_iconst (v := 0) hx hb dX6_many_0 (by decide) ?_
  refine lv_istore_n (lv' := [(1, .int 0), (0, .int x0)]) hx hb dX6_many_1 rfl hl (by decide) rfl (fun ls hl => ?_)
  refine lv_iconst (v := 0) hx hb dX6_many_2 (by decide) ?_
  refine lv_istore_n (lv' := [(2, .int 0), (1, .int 0), (0, .int x0)]) hx hb dX6_many_3 rfl hl (by decide) rfl (fun ls hl => ?_)
  refine wl_X6_many_L4 C hret N x0 _ (fun a_3 a_4 ls h hl => ?_) N 0 0 ls h (lv_sub hl [2, 1, 0] rfl)
  refine lv_iload_n hx hb dX6_many_24 rfl (lv_at hl 1 rfl) ?_
  cases h
  exact hret _ ls dX6_many_25
theorem hd_X6_many : yX6_many.cls ≠ "java/lang/invoke/MethodHandle" ∧ yX6_many.cls ≠ "java/lang/invoke/VarHandle" ∧ (parseMethodDescriptor yX6_many.desc).map (fun d => d.parameters.length) = some 1 := by decide +kernel
/-! X6_finding -/
def rmX6_finding : Room := { frames := 0, cells := 0, slots := 0, locals := 0 }
def f_X6_finding (st : St) (x1 : Int32) : Option (Int32 × St) := bnd (sU st 10 1 ((st 10 1) + 1)) fun st_1 => some (x1, st_1)
set_option maxHeartbeats 4000000 in
set_option maxRecDepth 100000 in
theorem c_X6_finding (l : Launch) (g : GP) (X : va_W) (am : Nat → Nat) (x1 : Int32)  (st : St) {r : Int32} {st' : St} (h : f_X6_finding st x1 = some (r, st')) : MetI l yX6_finding wsX6_finding rmX6_finding g (wMX g X am) [.ref (am 0), .int x1] st (r) st' := by
  refine metI_of (cc := cX6_finding) (nL := 2) (ty := .int) (by decide) rfl (Nat.le_of_ble_eq_true rfl) rfl ?_
  intro p e s m below meth c Q A C hret H locs hI ls hl
  have C : Cx p s m _ c cX6_finding 2 wsX6_finding RX6 g A := C
  obtain ⟨hx, hb, hml, hown, hts⟩ := id C.1
  have hl : lv_has ls 2 [(0, .ref (am 0)), (1, .int x1)] := hl
  have hinRX6 : ∀ w ∈ u_ws RX6 TX6 16, w ∈ wsX6_finding := by decide +kernel
  have lk40 := hts (.fieldLink RX6 40 "GraveRowsModel" "findings" "I") (by decide +kernel)
  rw [f_X6_finding] at h
  refine lv_aload_n hx hb dX6_finding_0 rfl (lv_at hl 0 rfl) ?_
  refine lv_dup hx hb dX6_finding_1 rfl ?_
  refine w_get (v := .int (st 10 1)) C hinRX6 hI X.length wM_ob rfl 3 (by decide) lk40 rfl rfl dX6_finding_2 ?_
  refine lv_iconst (v := 1) hx hb dX6_finding_5 (by decide) ?_
  refine lv_iadd hx hb dX6_finding_6 ?_
  refine w_put C hinRX6 tyX6 tyX6_ok nmX6 hI X.length wM_ob rfl 3 h (wM_setob rfl) (by decide) (Nat.le_of_ble_eq_true rfl) lk40 ⟨rfl, rfl⟩ rfl rfl dX6_finding_7 (fun st_1 H locs h hI => ?_)
  refine lv_iload_n hx hb dX6_finding_10 rfl (lv_at hl 1 rfl) ?_
  cases h
  exact hret H locs _ ls hI dX6_finding_11
theorem hv_X6_finding : yX6_finding.cls = RX6 ∧ yX6_finding.cls ≠ "java/lang/invoke/MethodHandle" ∧ yX6_finding.cls ≠ "java/lang/invoke/VarHandle" ∧ (parseMethodDescriptor yX6_finding.desc).map (fun d => d.parameters.length) = some 1 := by decide +kernel
/-! X6_isGood -/
def rmX6_isGood : Room := { frames := 1, cells := 0, slots := 0, locals := 22 }
def f_X6_isGood (x0 : Int32) : Bool := bnd (f_X6_within x0 0 11) fun r_1 => r_1
set_option maxHeartbeats 4000000 in
set_option maxRecDepth 100000 in
theorem c_X6_isGood (l : Launch) (x0 : Int32) : MetS l yX6_isGood wsX6_isGood rmX6_isGood [.int x0] (b2i (f_X6_isGood x0)) := by
  refine metS_of (cc := cX6_isGood) (nL := 1) (ty := .boolean) (by decide) rfl (Nat.le_of_ble_eq_true rfl) (nar_b _) ?_
  intro p e s m below meth c Q C hret ls hl
  have C : CallFix p m c cX6_isGood 1 s _ wsX6_isGood RX6 := C
  obtain ⟨hx, hb, hml, hown, hts⟩ := id C
  have hl : lv_has ls 1 [(0, .int x0)] := hl
  generalize hgen : f_X6_isGood x0 = r at hret
  have h := hgen
  rw [f_X6_isGood] at h
  refine lv_iload_n hx hb dX6_isGood_0 rfl (lv_at hl 0 rfl) ?_
  refine lv_iconst (v := 0) hx hb dX6_isGood_1 (by decide) ?_
  refine lv_bipush (v := 11) hx hb dX6_isGood_2 (by decide) ?_
  refine callS_S (rest := []) C (c_X6_within l x0 0 11) (va_cwS 3 hts gX6_isGood_X6_within rfl rfl rfl hd_X6_within ⟨Nat.le_of_ble_eq_true rfl, Nat.le_of_ble_eq_true rfl⟩) rfl hl.1 rfl (Nat.le_of_ble_eq_true rfl) dX6_isGood_4 ?_
  refine gen_b h (fun r_1 h => ?_)
  subst h
  exact hret _ ls dX6_isGood_7
theorem hd_X6_isGood : yX6_isGood.cls ≠ "java/lang/invoke/MethodHandle" ∧ yX6_isGood.cls ≠ "java/lang/invoke/VarHandle" ∧ (parseMethodDescriptor yX6_isGood.desc).map (fun d => d.parameters.length) = some 1 := by decide +kernel
/-! X6_doesCut -/
def rmX6_doesCut : Room := { frames := 0, cells := 0, slots := 0, locals := 0 }
def f_X6_doesCut (st : St) (x1 : Int32) (x2 : Int32) : Option (Bool) := ck 116 (62 + x1) fun j_1 => if ((st 0 j_1) >>> (x2 &&& 31)) &&& 1 = 1 then some true else some false
set_option maxHeartbeats 4000000 in
set_option maxRecDepth 100000 in
theorem c_X6_doesCut (l : Launch) (g : GP) (X : va_W) (am : Nat → Nat) (x1 : Int32) (x2 : Int32)  (st : St) {r : Bool}  (h : f_X6_doesCut st x1 x2 = some r) : MetI l yX6_doesCut wsX6_doesCut rmX6_doesCut g (wMX g X am) [.ref (am 0), .int x1, .int x2] st (b2i r) st := by
  refine metI_of (cc := cX6_doesCut) (nL := 3) (ty := .boolean) (by decide) rfl (Nat.le_of_ble_eq_true rfl) (nar_b _) ?_
  intro p e s m below meth c Q A C hret H locs hI ls hl
  have C : Cx p s m _ c cX6_doesCut 3 wsX6_doesCut RX6 g A := C
  obtain ⟨hx, hb, hml, hown, hts⟩ := id C.1
  have hl : lv_has ls 3 [(0, .ref (am 0)), (1, .int x1), (2, .int x2)] := hl
  have hinRX6 : ∀ w ∈ u_ws RX6 TX6 16, w ∈ wsX6_doesCut := by decide +kernel
  have lk9 := hts (.fieldLink RX6 9 "GraveRowsModel" "now" "[I") (by decide +kernel)
  rw [f_X6_doesCut] at h
  refine lv_aload_n hx hb dX6_doesCut_0 rfl (lv_at hl 0 rfl) ?_
  refine w_get (v := .ref (am 1)) C hinRX6 hI X.length wM_ob rfl 0 (by decide) lk9 rfl rfl dX6_doesCut_1 ?_
  refine lv_bipush (v := 62) hx hb dX6_doesCut_4 (by decide) ?_
  refine lv_iload_n hx hb dX6_doesCut_6 rfl (lv_at hl 1 rfl) ?_
  refine lv_iadd hx hb dX6_doesCut_7 ?_
  refine w_ld C hI (X.length + (0 + 1)) (wM_ar (by decide)) h dX6_doesCut_8 (fun j_1 hj_1 h => ?_)
  refine lv_iload_n hx hb dX6_doesCut_9 rfl (lv_at hl 2 rfl) ?_
  refine lv_ishr hx hb dX6_doesCut_10 ?_
  refine lv_iconst (v := 1) hx hb dX6_doesCut_11 (by decide) ?_
  refine lv_iand hx hb dX6_doesCut_12 ?_
  refine lv_iconst (v := 1) hx hb dX6_doesCut_13 (by decide) ?_
  refine lv_icmp_ne (tgt := 21) hx hb dX6_doesCut_14 (by decide) (fun c_2 => ?_) (fun c_2 => ?_)
  · replace h := (if_neg c_2).symm.trans h
    refine lv_iconst (v := 0) hx hb dX6_doesCut_21 (by decide) ?_
    cases h
    exact hret H locs _ ls hI dX6_doesCut_22
  · replace h := (if_pos c_2).symm.trans h
    refine lv_iconst (v := 1) hx hb dX6_doesCut_17 (by decide) ?_
    refine lv_goto (tgt := 22) hx hb dX6_doesCut_18 (by decide) ?_
    cases h
    exact hret H locs _ ls hI dX6_doesCut_22
theorem hv_X6_doesCut : yX6_doesCut.cls = RX6 ∧ yX6_doesCut.cls ≠ "java/lang/invoke/MethodHandle" ∧ yX6_doesCut.cls ≠ "java/lang/invoke/VarHandle" ∧ (parseMethodDescriptor yX6_doesCut.desc).map (fun d => d.parameters.length) = some 2 := by decide +kernel
/-! X6_cutBy -/
def rmX6_cutBy : Room := { frames := 1, cells := 0, slots := 0, locals := 22 }
def f_X6_cutBy_L4 (N : Nat) (x1 : Int32) (st : St) (k : Int32 → Int32 → Option (Int32)) : Nat → Int32 → Int32 → Option (Int32)
  | 0, _, _ => none
  | n + 1, x2, x3 => if st 0 0 ≤ x3 then k x2 x3 else bd1 (f_X6_doesCut st x3 x1) fun r_3 => if b2i r_3 = 0 then bnd (x2 + 0) fun v_5 => f_X6_cutBy_L4 N x1 st k n v_5 (x3 + 1) else bnd (x2 + 1) fun v_6 => f_X6_cutBy_L4 N x1 st k n v_6 (x3 + 1)
def f_X6_cutBy (N : Nat) (st : St) (x1 : Int32) : Option (Int32) := f_X6_cutBy_L4 N x1 st (fun a_7 a_8 => some a_7) N 0 0
set_option maxHeartbeats 4000000 in
set_option maxRecDepth 100000 in
theorem wl_X6_cutBy_L4 {p : Program} {l : Launch} {e : Env} {s : State} {m : MethodId} {args : Array Value} {below : List Frame} {meth : Method} {c : Code} {Q : State → Prop} {A : Nat → Prop} {g : GP} {X : va_W} {am : Nat → Nat} {r : Int32}  (C : Cx p s m args c cX6_cutBy 4 wsX6_cutBy RX6 g A) (st : St) (hret : RetI p l e rmX6_cutBy s m args below meth c Q cX6_cutBy g A (wMX g X am st) (r)) (N : Nat) (x1 : Int32)  (k : Int32 → Int32 → Option (Int32)) (hk : ∀ (x2 : Int32) (x3 : Int32) (H : Heap) (locs : List Loc) (ls : Array Slot), k x2 x3 = some r → IW g A s.heap (wMX g X am st) H locs → lv_has ls 4 [(0, .ref (am 0)), (1, .int x1), (2, .int x2), (3, .int x3)] → W p l e rmX6_cutBy s m args below meth c H locs 0 0 Q (F0 m 37 ls [])) : ∀ (n : Nat) (x2 : Int32) (x3 : Int32) (H : Heap) (locs : List Loc) (ls : Array Slot), f_X6_cutBy_L4 N x1 st k n x2 x3 = some r → IW g A s.heap (wMX g X am st) H locs → lv_has ls 4 [(0, .ref (am 0)), (1, .int x1), (2, .int x2), (3, .int x3)] → W p l e rmX6_cutBy s m args below meth c H locs 0 0 Q (F0 m 4 ls []) := by
  obtain ⟨hx, hb, hml, hown, hts⟩ := id C.1
  have hinRX6 : ∀ w ∈ u_ws RX6 TX6 16, w ∈ wsX6_cutBy := by decide +kernel
  have lk9 := hts (.fieldLink RX6 9 "GraveRowsModel" "now" "[I") (by decide +kernel)
  intro n
  induction n with
  | zero =>
    intro x2 x3 H locs ls h hI hl
    rw [f_X6_cutBy_L4] at h
    cases h
  | succ n ih =>
    intro x2 x3 H locs ls h hI hl
    rw [f_X6_cutBy_L4] at h
    refine lv_iload_n hx hb dX6_cutBy_4 rfl (lv_at hl 3 rfl) ?_
    refine lv_aload_n hx hb dX6_cutBy_5 rfl (lv_at hl 0 rfl) ?_
    refine w_get (v := .ref (am 1)) C hinRX6 hI X.length wM_ob rfl 0 (by decide) lk9 rfl rfl dX6_cutBy_6 ?_
    refine lv_iconst (v := 0) hx hb dX6_cutBy_9 (by decide) ?_
    refine w_ldK C hI (X.length + (0 + 1)) (wM_ar (by decide)) 0 (by decide) (by decide) dX6_cutBy_10 ?_
    refine lv_icmp_ge (tgt := 37) hx hb dX6_cutBy_11 (by decide) (fun c_1 => ?_) (fun c_1 => ?_)
    · replace h := (if_pos c_1).symm.trans h
      exact hk _ _ _ _ _ h hI (lv_sub hl [0, 1, 2, 3] rfl)
    · replace h := (if_neg c_1).symm.trans h
      refine lv_iload_n hx hb dX6_cutBy_14 rfl (lv_at hl 2 rfl) ?_
      refine lv_aload_n hx hb dX6_cutBy_15 rfl (lv_at hl 0 rfl) ?_
      refine lv_iload_n hx hb dX6_cutBy_16 rfl (lv_at hl 3 rfl) ?_
      refine lv_iload_n hx hb dX6_cutBy_17 rfl (lv_at hl 1 rfl) ?_
      obtain ⟨r_3, hr_2, h⟩ := bd1_some h
      refine callV_I (rest := [.int x2]) C hI (c_X6_doesCut l g X am x3 x1 st hr_2) (cwV 2 hts gX6_cutBy_X6_doesCut rfl rfl rfl hv_X6_doesCut ⟨Nat.le_of_ble_eq_true rfl, Nat.le_of_ble_eq_true rfl⟩) (w_recv C hI X.length wM_ob rfl) rfl hl.1 rfl (Nat.le_of_ble_eq_true rfl) dX6_cutBy_18 (fun H locs hI => ?_)
      refine lv_if_eq (tgt := 28) hx hb dX6_cutBy_21 (by decide) (fun c_4 => ?_) (fun c_4 => ?_)
      · replace h := (if_pos c_4).symm.trans h
        refine lv_iconst (v := 0) hx hb dX6_cutBy_28 (by decide) ?_
        refine lv_iadd hx hb dX6_cutBy_29 ?_
        refine gen_i h (fun v_5 h => ?_)
        refine lv_istore_n (lv' := [(2, .int v_5), (0, .ref (am 0)), (1, .int x1), (3, .int x3)]) hx hb dX6_cutBy_30 rfl hl (by decide) rfl (fun ls hl => ?_)
        refine lv_iinc (v := x3 + 1) (lv' := [(3, .int (x3 + 1)), (2, .int v_5), (0, .ref (am 0)), (1, .int x1)]) hx hb dX6_cutBy_31 hl (k := 3) rfl rfl (by decide) rfl (fun ls hl => ?_)
        refine lv_goto (tgt := 4) hx hb dX6_cutBy_34 (by decide) ?_
        exact ih _ _ _ _ _ h hI (lv_sub hl [2, 3, 1, 0] rfl)
      · replace h := (if_neg c_4).symm.trans h
        refine lv_iconst (v := 1) hx hb dX6_cutBy_24 (by decide) ?_
        refine lv_goto (tgt := 29) hx hb dX6_cutBy_25 (by decide) ?_
        refine lv_iadd hx hb dX6_cutBy_29 ?_
        refine gen_i h (fun v_6 h => ?_)
        refine lv_istore_n (lv' := [(2, .int v_6), (0, .ref (am 0)), (1, .int x1), (3, .int x3)]) hx hb dX6_cutBy_30 rfl hl (by decide) rfl (fun ls hl => ?_)
        refine lv_iinc (v := x3 + 1) (lv' := [(3, .int (x3 + 1)), (2, .int v_6), (0, .ref (am 0)), (1, .int x1)]) hx hb dX6_cutBy_31 hl (k := 3) rfl rfl (by decide) rfl (fun ls hl => ?_)
        refine lv_goto (tgt := 4) hx hb dX6_cutBy_34 (by decide) ?_
        exact ih _ _ _ _ _ h hI (lv_sub hl [2, 3, 1, 0] rfl)
set_option maxHeartbeats 4000000 in
set_option maxRecDepth 100000 in
theorem c_X6_cutBy (l : Launch) (g : GP) (X : va_W) (am : Nat → Nat) (N : Nat) (x1 : Int32)  (st : St) {r : Int32}  (h : f_X6_cutBy N st x1 = some r) : MetI l yX6_cutBy wsX6_cutBy rmX6_cutBy g (wMX g X am) [.ref (am 0), .int x1] st (r) st := by
  refine metI_of (cc := cX6_cutBy) (nL := 4) (ty := .int) (by decide) rfl (Nat.le_of_ble_eq_true rfl) rfl ?_
  intro p e s m below meth c Q A C hret H locs hI ls hl
  have C : Cx p s m _ c cX6_cutBy 4 wsX6_cutBy RX6 g A := C
  obtain ⟨hx, hb, hml, hown, hts⟩ := id C.1
  have hl : lv_has ls 4 [(0, .ref (am 0)), (1, .int x1)] := hl
  rw [f_X6_cutBy] at h
  refine lv_iconst (v := 0) hx hb dX6_cutBy_0 (by decide) ?_
  refine lv_istore_n (lv' := [(2, .int 0), (0, .ref (am 0)), (1, .int x1)]) hx hb dX6_cutBy_1 rfl hl (by decide) rfl (fun ls hl => ?_)
  refine lv_iconst (v := 0) hx hb dX6_cutBy_2 (by decide) ?_
  refine lv_istore_n (lv' := [(3, .int 0), (2, .int 0), (0, .ref (am 0)), (1, .int x1)]) hx hb dX6_cutBy_3 rfl hl (by decide) rfl (fun ls hl => ?_)
  refine wl_X6_cutBy_L4 C st hret N x1 _ (fun a_7 a_8 H locs ls h hI hl => ?_) N 0 0 H locs ls h hI (lv_sub hl [2, 3, 1, 0] rfl)
  refine lv_iload_n hx hb dX6_cutBy_37 rfl (lv_at hl 2 rfl) ?_
  cases h
  exact hret H locs _ ls hI dX6_cutBy_38
theorem hv_X6_cutBy : yX6_cutBy.cls = RX6 ∧ yX6_cutBy.cls ≠ "java/lang/invoke/MethodHandle" ∧ yX6_cutBy.cls ≠ "java/lang/invoke/VarHandle" ∧ (parseMethodDescriptor yX6_cutBy.desc).map (fun d => d.parameters.length) = some 1 := by decide +kernel
/-! X6_grave -/
def rmX6_grave : Room := { frames := 1, cells := 0, slots := 0, locals := 22 }
def f_X6_grave (st : St) (x1 : Int32) (x2 : Int32) (x3 : Int32) : Option (Int32 × St) := bnd (f_X6_within x1 0 3) fun r_1 => if b2i r_1 = 0 then bd2 (f_X6_finding st (-100001)) fun r_4 st_5 => some (r_4, st_5) else bnd (f_X6_within x2 0 99) fun r_6 => if b2i r_6 = 0 then bd2 (f_X6_finding st (-100001)) fun r_9 st_10 => some (r_9, st_10) else bnd (f_X6_within x3 0 99) fun r_11 => if b2i r_11 = 0 then bd2 (f_X6_finding st (-100001)) fun r_29 st_30 => some (r_29, st_30) else bnd (st 0 0) fun v_13 => if v_13 = 10 then bd2 (f_X6_finding st (-100005)) fun r_26 st_27 => some (r_26, st_27) else sto 116 st 0 (2 + v_13) x1 fun st_15 => sto 116 st_15 0 (12 + v_13) x2 fun st_16 => sto 116 st_16 0 (22 + v_13) x3 fun st_17 => sto 116 st_17 0 (32 + v_13) 0 fun st_18 => sto 116 st_18 0 (42 + v_13) (-5000) fun st_19 => sto 116 st_19 0 (52 + v_13) 5000 fun st_20 => sto 116 st_20 0 (62 + v_13) 0 fun st_21 => sto 116 st_21 0 (72 + v_13) 0 fun st_22 => sto 116 st_22 0 (82 + v_13) 0 fun st_23 => bnd (sU st_23 0 0 ((st_23 0 0) + 1)) fun st_24 => some (v_13, st_24)
set_option maxHeartbeats 4000000 in
set_option maxRecDepth 100000 in
theorem c_X6_grave (l : Launch) (g : GP) (X : va_W) (am : Nat → Nat) (x1 : Int32) (x2 : Int32) (x3 : Int32)  (st : St) {r : Int32} {st' : St} (h : f_X6_grave st x1 x2 x3 = some (r, st')) : MetI l yX6_grave wsX6_grave rmX6_grave g (wMX g X am) [.ref (am 0), .int x1, .int x2, .int x3] st (r) st' := by
  refine metI_of (cc := cX6_grave) (nL := 5) (ty := .int) (by decide) rfl (Nat.le_of_ble_eq_true rfl) rfl ?_
  intro p e s m below meth c Q A C hret H locs hI ls hl
  have C : Cx p s m _ c cX6_grave 5 wsX6_grave RX6 g A := C
  obtain ⟨hx, hb, hml, hown, hts⟩ := id C.1
  have hl : lv_has ls 5 [(0, .ref (am 0)), (1, .int x1), (2, .int x2), (3, .int x3)] := hl
  have lc48 := hts (.constant RX6 48 (-100001)) (by decide +kernel)
  have hinRX6 : ∀ w ∈ u_ws RX6 TX6 16, w ∈ wsX6_grave := by decide +kernel
  have lk9 := hts (.fieldLink RX6 9 "GraveRowsModel" "now" "[I") (by decide +kernel)
  have lc53 := hts (.constant RX6 53 (-100005)) (by decide +kernel)
  rw [f_X6_grave] at h
  refine lv_iload_n hx hb dX6_grave_0 rfl (lv_at hl 1 rfl) ?_
  refine lv_iconst (v := 0) hx hb dX6_grave_1 (by decide) ?_
  refine lv_iconst (v := 3) hx hb dX6_grave_2 (by decide) ?_
  refine callS_S (rest := []) C.1 (c_X6_within l x1 0 3) (va_cwS 3 hts gX6_grave_X6_within rfl rfl rfl hd_X6_within ⟨Nat.le_of_ble_eq_true rfl, Nat.le_of_ble_eq_true rfl⟩) rfl hl.1 rfl (Nat.le_of_ble_eq_true rfl) dX6_grave_3 ?_
  refine gen_b h (fun r_1 h => ?_)
  refine lv_if_eq (tgt := 29) hx hb dX6_grave_6 (by decide) (fun c_2 => ?_) (fun c_2 => ?_)
  · replace h := (if_pos c_2).symm.trans h
    refine lv_aload_n hx hb dX6_grave_29 rfl (lv_at hl 0 rfl) ?_
    refine lv_ldc (v := (-100001)) hx hb hown lc48 dX6_grave_30 ?_
    obtain ⟨r_4, st_5, hr_3, h⟩ := bd2_some h
    refine callV_I (rest := []) C hI (c_X6_finding l g X am (-100001) st hr_3) (cwV 1 hts gX6_grave_X6_finding rfl rfl rfl hv_X6_finding ⟨Nat.le_of_ble_eq_true rfl, Nat.le_of_ble_eq_true rfl⟩) (w_recv C hI X.length wM_ob rfl) rfl hl.1 rfl (Nat.le_of_ble_eq_true rfl) dX6_grave_32 (fun H locs hI => ?_)
    cases h
    exact hret H locs _ ls hI dX6_grave_35
  · replace h := (if_neg c_2).symm.trans h
    refine lv_iload_n hx hb dX6_grave_9 rfl (lv_at hl 2 rfl) ?_
    refine lv_iconst (v := 0) hx hb dX6_grave_10 (by decide) ?_
    refine lv_bipush (v := 99) hx hb dX6_grave_11 (by decide) ?_
    refine callS_S (rest := []) C.1 (c_X6_within l x2 0 99) (va_cwS 3 hts gX6_grave_X6_within rfl rfl rfl hd_X6_within ⟨Nat.le_of_ble_eq_true rfl, Nat.le_of_ble_eq_true rfl⟩) rfl hl.1 rfl (Nat.le_of_ble_eq_true rfl) dX6_grave_13 ?_
    refine gen_b h (fun r_6 h => ?_)
    refine lv_if_eq (tgt := 29) hx hb dX6_grave_16 (by decide) (fun c_7 => ?_) (fun c_7 => ?_)
    · replace h := (if_pos c_7).symm.trans h
      refine lv_aload_n hx hb dX6_grave_29 rfl (lv_at hl 0 rfl) ?_
      refine lv_ldc (v := (-100001)) hx hb hown lc48 dX6_grave_30 ?_
      obtain ⟨r_9, st_10, hr_8, h⟩ := bd2_some h
      refine callV_I (rest := []) C hI (c_X6_finding l g X am (-100001) st hr_8) (cwV 1 hts gX6_grave_X6_finding rfl rfl rfl hv_X6_finding ⟨Nat.le_of_ble_eq_true rfl, Nat.le_of_ble_eq_true rfl⟩) (w_recv C hI X.length wM_ob rfl) rfl hl.1 rfl (Nat.le_of_ble_eq_true rfl) dX6_grave_32 (fun H locs hI => ?_)
      cases h
      exact hret H locs _ ls hI dX6_grave_35
    · replace h := (if_neg c_7).symm.trans h
      refine lv_iload_n hx hb dX6_grave_19 rfl (lv_at hl 3 rfl) ?_
      refine lv_iconst (v := 0) hx hb dX6_grave_20 (by decide) ?_
      refine lv_bipush (v := 99) hx hb dX6_grave_21 (by decide) ?_
      refine callS_S (rest := []) C.1 (c_X6_within l x3 0 99) (va_cwS 3 hts gX6_grave_X6_within rfl rfl rfl hd_X6_within ⟨Nat.le_of_ble_eq_true rfl, Nat.le_of_ble_eq_true rfl⟩) rfl hl.1 rfl (Nat.le_of_ble_eq_true rfl) dX6_grave_23 ?_
      refine gen_b h (fun r_11 h => ?_)
      refine lv_if_ne (tgt := 36) hx hb dX6_grave_26 (by decide) (fun c_12 => ?_) (fun c_12 => ?_)
      · replace h := (if_neg c_12).symm.trans h
        refine lv_aload_n hx hb dX6_grave_36 rfl (lv_at hl 0 rfl) ?_
        refine w_get (v := .ref (am 1)) C hinRX6 hI X.length wM_ob rfl 0 (by decide) lk9 rfl rfl dX6_grave_37 ?_
        refine lv_iconst (v := 0) hx hb dX6_grave_40 (by decide) ?_
        refine w_ldK C hI (X.length + (0 + 1)) (wM_ar (by decide)) 0 (by decide) (by decide) dX6_grave_41 ?_
        refine gen_i h (fun v_13 h => ?_)
        refine lv_istore (lv' := [(4, .int v_13), (0, .ref (am 0)), (1, .int x1), (2, .int x2), (3, .int x3)]) hx hb dX6_grave_42 hl (by decide) rfl (fun ls hl => ?_)
        refine lv_iload hx hb dX6_grave_44 (lv_at hl 0 rfl) ?_
        refine lv_bipush (v := 10) hx hb dX6_grave_46 (by decide) ?_
        refine lv_icmp_ne (tgt := 58) hx hb dX6_grave_48 (by decide) (fun c_14 => ?_) (fun c_14 => ?_)
        · replace h := (if_neg c_14).symm.trans h
          refine lv_aload_n hx hb dX6_grave_58 rfl (lv_at hl 1 rfl) ?_
          refine w_get (v := .ref (am 1)) C hinRX6 hI X.length wM_ob rfl 0 (by decide) lk9 rfl rfl dX6_grave_59 ?_
          refine lv_iconst (v := 2) hx hb dX6_grave_62 (by decide) ?_
          refine lv_iload hx hb dX6_grave_63 (lv_at hl 0 rfl) ?_
          refine lv_iadd hx hb dX6_grave_65 ?_
          refine lv_iload_n hx hb dX6_grave_66 rfl (lv_at hl 2 rfl) ?_
          refine w_st C hI (X.length + (0 + 1)) (wM_ar (by decide)) (wM_setar (by decide)) h dX6_grave_67 (fun st_15 H locs h hI => ?_)
          refine lv_aload_n hx hb dX6_grave_68 rfl (lv_at hl 1 rfl) ?_
          refine w_get (v := .ref (am 1)) C hinRX6 hI X.length wM_ob rfl 0 (by decide) lk9 rfl rfl dX6_grave_69 ?_
          refine lv_bipush (v := 12) hx hb dX6_grave_72 (by decide) ?_
          refine lv_iload hx hb dX6_grave_74 (lv_at hl 0 rfl) ?_
          refine lv_iadd hx hb dX6_grave_76 ?_
          refine lv_iload_n hx hb dX6_grave_77 rfl (lv_at hl 3 rfl) ?_
          refine w_st C hI (X.length + (0 + 1)) (wM_ar (by decide)) (wM_setar (by decide)) h dX6_grave_78 (fun st_16 H locs h hI => ?_)
          refine lv_aload_n hx hb dX6_grave_79 rfl (lv_at hl 1 rfl) ?_
          refine w_get (v := .ref (am 1)) C hinRX6 hI X.length wM_ob rfl 0 (by decide) lk9 rfl rfl dX6_grave_80 ?_
          refine lv_bipush (v := 22) hx hb dX6_grave_83 (by decide) ?_
          refine lv_iload hx hb dX6_grave_85 (lv_at hl 0 rfl) ?_
          refine lv_iadd hx hb dX6_grave_87 ?_
          refine lv_iload_n hx hb dX6_grave_88 rfl (lv_at hl 4 rfl) ?_
          refine w_st C hI (X.length + (0 + 1)) (wM_ar (by decide)) (wM_setar (by decide)) h dX6_grave_89 (fun st_17 H locs h hI => ?_)
          refine lv_aload_n hx hb dX6_grave_90 rfl (lv_at hl 1 rfl) ?_
          refine w_get (v := .ref (am 1)) C hinRX6 hI X.length wM_ob rfl 0 (by decide) lk9 rfl rfl dX6_grave_91 ?_
          refine lv_bipush (v := 32) hx hb dX6_grave_94 (by decide) ?_
          refine lv_iload hx hb dX6_grave_96 (lv_at hl 0 rfl) ?_
          refine lv_iadd hx hb dX6_grave_98 ?_
          refine lv_iconst (v := 0) hx hb dX6_grave_99 (by decide) ?_
          refine w_st C hI (X.length + (0 + 1)) (wM_ar (by decide)) (wM_setar (by decide)) h dX6_grave_100 (fun st_18 H locs h hI => ?_)
          refine lv_aload_n hx hb dX6_grave_101 rfl (lv_at hl 1 rfl) ?_
          refine w_get (v := .ref (am 1)) C hinRX6 hI X.length wM_ob rfl 0 (by decide) lk9 rfl rfl dX6_grave_102 ?_
          refine lv_bipush (v := 42) hx hb dX6_grave_105 (by decide) ?_
          refine lv_iload hx hb dX6_grave_107 (lv_at hl 0 rfl) ?_
          refine lv_iadd hx hb dX6_grave_109 ?_
          refine lv_sipush (v := (-5000)) hx hb dX6_grave_110 (by decide) ?_
          refine w_st C hI (X.length + (0 + 1)) (wM_ar (by decide)) (wM_setar (by decide)) h dX6_grave_113 (fun st_19 H locs h hI => ?_)
          refine lv_aload_n hx hb dX6_grave_114 rfl (lv_at hl 1 rfl) ?_
          refine w_get (v := .ref (am 1)) C hinRX6 hI X.length wM_ob rfl 0 (by decide) lk9 rfl rfl dX6_grave_115 ?_
          refine lv_bipush (v := 52) hx hb dX6_grave_118 (by decide) ?_
          refine lv_iload hx hb dX6_grave_120 (lv_at hl 0 rfl) ?_
          refine lv_iadd hx hb dX6_grave_122 ?_
          refine lv_sipush (v := 5000) hx hb dX6_grave_123 (by decide) ?_
          refine w_st C hI (X.length + (0 + 1)) (wM_ar (by decide)) (wM_setar (by decide)) h dX6_grave_126 (fun st_20 H locs h hI => ?_)
          refine lv_aload_n hx hb dX6_grave_127 rfl (lv_at hl 1 rfl) ?_
          refine w_get (v := .ref (am 1)) C hinRX6 hI X.length wM_ob rfl 0 (by decide) lk9 rfl rfl dX6_grave_128 ?_
          refine lv_bipush (v := 62) hx hb dX6_grave_131 (by decide) ?_
          refine lv_iload hx hb dX6_grave_133 (lv_at hl 0 rfl) ?_
          refine lv_iadd hx hb dX6_grave_135 ?_
          refine lv_iconst (v := 0) hx hb dX6_grave_136 (by decide) ?_
          refine w_st C hI (X.length + (0 + 1)) (wM_ar (by decide)) (wM_setar (by decide)) h dX6_grave_137 (fun st_21 H locs h hI => ?_)
          refine lv_aload_n hx hb dX6_grave_138 rfl (lv_at hl 1 rfl) ?_
          refine w_get (v := .ref (am 1)) C hinRX6 hI X.length wM_ob rfl 0 (by decide) lk9 rfl rfl dX6_grave_139 ?_
          refine lv_bipush (v := 72) hx hb dX6_grave_142 (by decide) ?_
          refine lv_iload hx hb dX6_grave_144 (lv_at hl 0 rfl) ?_
          refine lv_iadd hx hb dX6_grave_146 ?_
          refine lv_iconst (v := 0) hx hb dX6_grave_147 (by decide) ?_
          refine w_st C hI (X.length + (0 + 1)) (wM_ar (by decide)) (wM_setar (by decide)) h dX6_grave_148 (fun st_22 H locs h hI => ?_)
          refine lv_aload_n hx hb dX6_grave_149 rfl (lv_at hl 1 rfl) ?_
          refine w_get (v := .ref (am 1)) C hinRX6 hI X.length wM_ob rfl 0 (by decide) lk9 rfl rfl dX6_grave_150 ?_
          refine lv_bipush (v := 82) hx hb dX6_grave_153 (by decide) ?_
          refine lv_iload hx hb dX6_grave_155 (lv_at hl 0 rfl) ?_
          refine lv_iadd hx hb dX6_grave_157 ?_
          refine lv_iconst (v := 0) hx hb dX6_grave_158 (by decide) ?_
          refine w_st C hI (X.length + (0 + 1)) (wM_ar (by decide)) (wM_setar (by decide)) h dX6_grave_159 (fun st_23 H locs h hI => ?_)
          refine lv_aload_n hx hb dX6_grave_160 rfl (lv_at hl 1 rfl) ?_
          refine w_get (v := .ref (am 1)) C hinRX6 hI X.length wM_ob rfl 0 (by decide) lk9 rfl rfl dX6_grave_161 ?_
          refine lv_iconst (v := 0) hx hb dX6_grave_164 (by decide) ?_
          refine lv_dup2_11 hx hb dX6_grave_165 rfl rfl ?_
          refine w_ldK C hI (X.length + (0 + 1)) (wM_ar (by decide)) 0 (by decide) (by decide) dX6_grave_166 ?_
          refine lv_iconst (v := 1) hx hb dX6_grave_167 (by decide) ?_
          refine lv_iadd hx hb dX6_grave_168 ?_
          refine w_stK C hI (X.length + (0 + 1)) (wM_ar (by decide)) (wM_setar (by decide)) 0 h (by decide) (by decide) dX6_grave_169 (fun st_24 H locs h hI => ?_)
          refine lv_iload hx hb dX6_grave_170 (lv_at hl 0 rfl) ?_
          cases h
          exact hret H locs _ ls hI dX6_grave_172
        · replace h := (if_pos c_14).symm.trans h
          refine lv_aload_n hx hb dX6_grave_51 rfl (lv_at hl 1 rfl) ?_
          refine lv_ldc (v := (-100005)) hx hb hown lc53 dX6_grave_52 ?_
          obtain ⟨r_26, st_27, hr_25, h⟩ := bd2_some h
          refine callV_I (rest := []) C hI (c_X6_finding l g X am (-100005) st hr_25) (cwV 1 hts gX6_grave_X6_finding rfl rfl rfl hv_X6_finding ⟨Nat.le_of_ble_eq_true rfl, Nat.le_of_ble_eq_true rfl⟩) (w_recv C hI X.length wM_ob rfl) rfl hl.1 rfl (Nat.le_of_ble_eq_true rfl) dX6_grave_54 (fun H locs hI => ?_)
          cases h
          exact hret H locs _ ls hI dX6_grave_57
      · replace h := (if_pos c_12).symm.trans h
        refine lv_aload_n hx hb dX6_grave_29 rfl (lv_at hl 0 rfl) ?_
        refine lv_ldc (v := (-100001)) hx hb hown lc48 dX6_grave_30 ?_
        obtain ⟨r_29, st_30, hr_28, h⟩ := bd2_some h
        refine callV_I (rest := []) C hI (c_X6_finding l g X am (-100001) st hr_28) (cwV 1 hts gX6_grave_X6_finding rfl rfl rfl hv_X6_finding ⟨Nat.le_of_ble_eq_true rfl, Nat.le_of_ble_eq_true rfl⟩) (w_recv C hI X.length wM_ob rfl) rfl hl.1 rfl (Nat.le_of_ble_eq_true rfl) dX6_grave_32 (fun H locs hI => ?_)
        cases h
        exact hret H locs _ ls hI dX6_grave_35
theorem hv_X6_grave : yX6_grave.cls = RX6 ∧ yX6_grave.cls ≠ "java/lang/invoke/MethodHandle" ∧ yX6_grave.cls ≠ "java/lang/invoke/VarHandle" ∧ (parseMethodDescriptor yX6_grave.desc).map (fun d => d.parameters.length) = some 3 := by decide +kernel
/-! X6_below -/
def rmX6_below : Room := { frames := 0, cells := 0, slots := 0, locals := 0 }
def f_X6_below_L22 (N : Nat) (x3 : Int32) (st : St) (k : Int32 → Int32 → Option (Int32)) : Nat → Int32 → Int32 → Option (Int32)
  | 0, _, _ => none
  | n + 1, x2, x4 => if st 0 0 ≤ x4 then k x2 x4 else if (x2 >>> (x4 &&& 31)) &&& 1 = 1 then ck 116 (62 + x4) fun j_7 => bnd (x2 ||| (st 0 j_7)) fun v_8 => f_X6_below_L22 N x3 st k n v_8 (x4 + 1) else bnd (x2 ||| 0) fun v_6 => f_X6_below_L22 N x3 st k n v_6 (x4 + 1)
def f_X6_below_L12 (N : Nat) (st : St) (k : Int32 → Int32 → Option (Int32)) : Nat → Int32 → Int32 → Option (Int32)
  | 0, _, _ => none
  | n + 1, x2, x3 => if x2 = x3 then k x2 x3 else f_X6_below_L22 N x2 st (fun a_9 a_10 => f_X6_below_L12 N st k n a_9 x2) N x2 0
def f_X6_below (N : Nat) (st : St) (x1 : Int32) : Option (Int32) := ck 116 (62 + x1) fun j_1 => bnd (st 0 j_1) fun v_2 => f_X6_below_L12 N st (fun a_11 a_12 => some a_11) N v_2 (-1)
set_option maxHeartbeats 4000000 in
set_option maxRecDepth 100000 in
theorem wl_X6_below_L22 {p : Program} {l : Launch} {e : Env} {s : State} {m : MethodId} {args : Array Value} {below : List Frame} {meth : Method} {c : Code} {Q : State → Prop} {A : Nat → Prop} {g : GP} {X : va_W} {am : Nat → Nat} {r : Int32}  (C : Cx p s m args c cX6_below 5 wsX6_below RX6 g A) (st : St) (hret : RetI p l e rmX6_below s m args below meth c Q cX6_below g A (wMX g X am st) (r)) (N : Nat) (x3 : Int32)  (k : Int32 → Int32 → Option (Int32)) (hk : ∀ (x2 : Int32) (x4 : Int32) (H : Heap) (locs : List Loc) (ls : Array Slot), k x2 x4 = some r → IW g A s.heap (wMX g X am st) H locs → lv_has ls 5 [(0, .ref (am 0)), (2, .int x2), (3, .int x3), (4, .int x4)] → W p l e rmX6_below s m args below meth c H locs 0 0 Q (F0 m 66 ls [])) : ∀ (n : Nat) (x2 : Int32) (x4 : Int32) (H : Heap) (locs : List Loc) (ls : Array Slot), f_X6_below_L22 N x3 st k n x2 x4 = some r → IW g A s.heap (wMX g X am st) H locs → lv_has ls 5 [(0, .ref (am 0)), (2, .int x2), (3, .int x3), (4, .int x4)] → W p l e rmX6_below s m args below meth c H locs 0 0 Q (F0 m 22 ls []) := by
  obtain ⟨hx, hb, hml, hown, hts⟩ := id C.1
  have hinRX6 : ∀ w ∈ u_ws RX6 TX6 16, w ∈ wsX6_below := by decide +kernel
  have lk9 := hts (.fieldLink RX6 9 "GraveRowsModel" "now" "[I") (by decide +kernel)
  intro n
  induction n with
  | zero =>
    intro x2 x4 H locs ls h hI hl
    rw [f_X6_below_L22] at h
    cases h
  | succ n ih =>
    intro x2 x4 H locs ls h hI hl
    rw [f_X6_below_L22] at h
    refine lv_iload hx hb dX6_below_22 (lv_at hl 3 rfl) ?_
    refine lv_aload_n hx hb dX6_below_24 rfl (lv_at hl 0 rfl) ?_
    refine w_get (v := .ref (am 1)) C hinRX6 hI X.length wM_ob rfl 0 (by decide) lk9 rfl rfl dX6_below_25 ?_
    refine lv_iconst (v := 0) hx hb dX6_below_28 (by decide) ?_
    refine w_ldK C hI (X.length + (0 + 1)) (wM_ar (by decide)) 0 (by decide) (by decide) dX6_below_29 ?_
    refine lv_icmp_ge (tgt := 66) hx hb dX6_below_30 (by decide) (fun c_4 => ?_) (fun c_4 => ?_)
    · replace h := (if_pos c_4).symm.trans h
      exact hk _ _ _ _ _ h hI (lv_sub hl [0, 1, 2, 3] rfl)
    · replace h := (if_neg c_4).symm.trans h
      refine lv_iload_n hx hb dX6_below_33 rfl (lv_at hl 1 rfl) ?_
      refine lv_iload_n hx hb dX6_below_34 rfl (lv_at hl 1 rfl) ?_
      refine lv_iload hx hb dX6_below_35 (lv_at hl 3 rfl) ?_
      refine lv_ishr hx hb dX6_below_37 ?_
      refine lv_iconst (v := 1) hx hb dX6_below_38 (by decide) ?_
      refine lv_iand hx hb dX6_below_39 ?_
      refine lv_iconst (v := 1) hx hb dX6_below_40 (by decide) ?_
      refine lv_icmp_ne (tgt := 57) hx hb dX6_below_41 (by decide) (fun c_5 => ?_) (fun c_5 => ?_)
      · replace h := (if_neg c_5).symm.trans h
        refine lv_iconst (v := 0) hx hb dX6_below_57 (by decide) ?_
        refine lv_ior hx hb dX6_below_58 ?_
        refine gen_i h (fun v_6 h => ?_)
        refine lv_istore_n (lv' := [(2, .int v_6), (0, .ref (am 0)), (3, .int x3), (4, .int x4)]) hx hb dX6_below_59 rfl hl (by decide) rfl (fun ls hl => ?_)
        refine lv_iinc (v := x4 + 1) (lv' := [(4, .int (x4 + 1)), (2, .int v_6), (0, .ref (am 0)), (3, .int x3)]) hx hb dX6_below_60 hl (k := 3) rfl rfl (by decide) rfl (fun ls hl => ?_)
        refine lv_goto (tgt := 22) hx hb dX6_below_63 (by decide) ?_
        exact ih _ _ _ _ _ h hI (lv_sub hl [2, 1, 3, 0] rfl)
      · replace h := (if_pos c_5).symm.trans h
        refine lv_aload_n hx hb dX6_below_44 rfl (lv_at hl 0 rfl) ?_
        refine w_get (v := .ref (am 1)) C hinRX6 hI X.length wM_ob rfl 0 (by decide) lk9 rfl rfl dX6_below_45 ?_
        refine lv_bipush (v := 62) hx hb dX6_below_48 (by decide) ?_
        refine lv_iload hx hb dX6_below_50 (lv_at hl 3 rfl) ?_
        refine lv_iadd hx hb dX6_below_52 ?_
        refine w_ld C hI (X.length + (0 + 1)) (wM_ar (by decide)) h dX6_below_53 (fun j_7 hj_7 h => ?_)
        refine lv_goto (tgt := 58) hx hb dX6_below_54 (by decide) ?_
        refine lv_ior hx hb dX6_below_58 ?_
        refine gen_i h (fun v_8 h => ?_)
        refine lv_istore_n (lv' := [(2, .int v_8), (0, .ref (am 0)), (3, .int x3), (4, .int x4)]) hx hb dX6_below_59 rfl hl (by decide) rfl (fun ls hl => ?_)
        refine lv_iinc (v := x4 + 1) (lv' := [(4, .int (x4 + 1)), (2, .int v_8), (0, .ref (am 0)), (3, .int x3)]) hx hb dX6_below_60 hl (k := 3) rfl rfl (by decide) rfl (fun ls hl => ?_)
        refine lv_goto (tgt := 22) hx hb dX6_below_63 (by decide) ?_
        exact ih _ _ _ _ _ h hI (lv_sub hl [2, 1, 3, 0] rfl)
set_option maxHeartbeats 4000000 in
set_option maxRecDepth 100000 in
theorem wl_X6_below_L12 {p : Program} {l : Launch} {e : Env} {s : State} {m : MethodId} {args : Array Value} {below : List Frame} {meth : Method} {c : Code} {Q : State → Prop} {A : Nat → Prop} {g : GP} {X : va_W} {am : Nat → Nat} {r : Int32}  (C : Cx p s m args c cX6_below 5 wsX6_below RX6 g A) (st : St) (hret : RetI p l e rmX6_below s m args below meth c Q cX6_below g A (wMX g X am st) (r)) (N : Nat)  (k : Int32 → Int32 → Option (Int32)) (hk : ∀ (x2 : Int32) (x3 : Int32) (H : Heap) (locs : List Loc) (ls : Array Slot), k x2 x3 = some r → IW g A s.heap (wMX g X am st) H locs → lv_has ls 5 [(0, .ref (am 0)), (2, .int x2), (3, .int x3)] → W p l e rmX6_below s m args below meth c H locs 0 0 Q (F0 m 69 ls [])) : ∀ (n : Nat) (x2 : Int32) (x3 : Int32) (H : Heap) (locs : List Loc) (ls : Array Slot), f_X6_below_L12 N st k n x2 x3 = some r → IW g A s.heap (wMX g X am st) H locs → lv_has ls 5 [(0, .ref (am 0)), (2, .int x2), (3, .int x3)] → W p l e rmX6_below s m args below meth c H locs 0 0 Q (F0 m 12 ls []) := by
  obtain ⟨hx, hb, hml, hown, hts⟩ := id C.1
  intro n
  induction n with
  | zero =>
    intro x2 x3 H locs ls h hI hl
    rw [f_X6_below_L12] at h
    cases h
  | succ n ih =>
    intro x2 x3 H locs ls h hI hl
    rw [f_X6_below_L12] at h
    refine lv_iload_n hx hb dX6_below_12 rfl (lv_at hl 1 rfl) ?_
    refine lv_iload_n hx hb dX6_below_13 rfl (lv_at hl 2 rfl) ?_
    refine lv_icmp_eq (tgt := 69) hx hb dX6_below_14 (by decide) (fun c_3 => ?_) (fun c_3 => ?_)
    · replace h := (if_pos c_3).symm.trans h
      exact hk _ _ _ _ _ h hI (lv_sub hl [0, 1, 2] rfl)
    · replace h := (if_neg c_3).symm.trans h
      refine lv_iload_n hx hb dX6_below_17 rfl (lv_at hl 1 rfl) ?_
      refine lv_istore_n (lv' := [(3, .int x2), (0, .ref (am 0)), (2, .int x2)]) hx hb dX6_below_18 rfl hl (by decide) rfl (fun ls hl => ?_)
      refine lv_iconst (v := 0) hx hb dX6_below_19 (by decide) ?_
      refine lv_istore (lv' := [(4, .int 0), (3, .int x2), (0, .ref (am 0)), (2, .int x2)]) hx hb dX6_below_20 hl (by decide) rfl (fun ls hl => ?_)
      refine wl_X6_below_L22 C st hret N x2 _ (fun a_9 a_10 H locs ls h hI hl => ?_) N x2 0 H locs ls h hI (lv_sub hl [2, 3, 1, 0] rfl)
      refine lv_goto (tgt := 12) hx hb dX6_below_66 (by decide) ?_
      exact ih _ _ _ _ _ h hI (lv_sub hl [0, 1, 2] rfl)
set_option maxHeartbeats 4000000 in
set_option maxRecDepth 100000 in
theorem c_X6_below (l : Launch) (g : GP) (X : va_W) (am : Nat → Nat) (N : Nat) (x1 : Int32)  (st : St) {r : Int32}  (h : f_X6_below N st x1 = some r) : MetI l yX6_below wsX6_below rmX6_below g (wMX g X am) [.ref (am 0), .int x1] st (r) st := by
  refine metI_of (cc := cX6_below) (nL := 5) (ty := .int) (by decide) rfl (Nat.le_of_ble_eq_true rfl) rfl ?_
  intro p e s m below meth c Q A C hret H locs hI ls hl
  have C : Cx p s m _ c cX6_below 5 wsX6_below RX6 g A := C
  obtain ⟨hx, hb, hml, hown, hts⟩ := id C.1
  have hl : lv_has ls 5 [(0, .ref (am 0)), (1, .int x1)] := hl
  have hinRX6 : ∀ w ∈ u_ws RX6 TX6 16, w ∈ wsX6_below := by decide +kernel
  have lk9 := hts (.fieldLink RX6 9 "GraveRowsModel" "now" "[I") (by decide +kernel)
  rw [f_X6_below] at h
  refine lv_aload_n hx hb dX6_below_0 rfl (lv_at hl 0 rfl) ?_
  refine w_get (v := .ref (am 1)) C hinRX6 hI X.length wM_ob rfl 0 (by decide) lk9 rfl rfl dX6_below_1 ?_
  refine lv_bipush (v := 62) hx hb dX6_below_4 (by decide) ?_
  refine lv_iload_n hx hb dX6_below_6 rfl (lv_at hl 1 rfl) ?_
  refine lv_iadd hx hb dX6_below_7 ?_
  refine w_ld C hI (X.length + (0 + 1)) (wM_ar (by decide)) h dX6_below_8 (fun j_1 hj_1 h => ?_)
  refine gen_i h (fun v_2 h => ?_)
  refine lv_istore_n (lv' := [(2, .int v_2), (0, .ref (am 0)), (1, .int x1)]) hx hb dX6_below_9 rfl hl (by decide) rfl (fun ls hl => ?_)
  refine lv_iconst (v := (-1)) hx hb dX6_below_10 (by decide) ?_
  refine lv_istore_n (lv' := [(3, .int (-1)), (2, .int v_2), (0, .ref (am 0)), (1, .int x1)]) hx hb dX6_below_11 rfl hl (by decide) rfl (fun ls hl => ?_)
  refine wl_X6_below_L12 C st hret N _ (fun a_11 a_12 H locs ls h hI hl => ?_) N v_2 (-1) H locs ls h hI (lv_sub hl [2, 1, 0] rfl)
  refine lv_iload_n hx hb dX6_below_69 rfl (lv_at hl 1 rfl) ?_
  cases h
  exact hret H locs _ ls hI dX6_below_70
theorem hv_X6_below : yX6_below.cls = RX6 ∧ yX6_below.cls ≠ "java/lang/invoke/MethodHandle" ∧ yX6_below.cls ≠ "java/lang/invoke/VarHandle" ∧ (parseMethodDescriptor yX6_below.desc).map (fun d => d.parameters.length) = some 1 := by decide +kernel
/-! X6_of -/
def rmX6_of : Room := { frames := 2, cells := 0, slots := 0, locals := 45 }
def f_X6_of (N : Nat) (st : St) (x1 : Int32) (x2 : Int32) : Option (Int32 × St) := bnd (f_X6_isGrave st x1) fun r_1 => if b2i r_1 = 0 then bd2 (f_X6_finding st (-100001)) fun r_4 st_5 => some (r_4, st_5) else bnd (f_X6_within x2 0 7) fun r_6 => if b2i r_6 = 0 then bd2 (f_X6_finding st (-100001)) fun r_17 st_18 => some (r_17, st_18) else if 6 ≤ x2 then if x2 = 6 then ck 116 (62 + x1) fun j_12 => bd1 (f_X6_many N (st 0 j_12)) fun r_14 => some (r_14, st) else bd1 (f_X6_cutBy N st x1) fun r_11 => some (r_11, st) else ck 116 ((2 + (10 * x2)) + x1) fun j_15 => some (st 0 j_15, st)
set_option maxHeartbeats 4000000 in
set_option maxRecDepth 100000 in
theorem c_X6_of (l : Launch) (g : GP) (X : va_W) (am : Nat → Nat) (N : Nat) (x1 : Int32) (x2 : Int32)  (st : St) {r : Int32} {st' : St} (h : f_X6_of N st x1 x2 = some (r, st')) : MetI l yX6_of wsX6_of rmX6_of g (wMX g X am) [.ref (am 0), .int x1, .int x2] st (r) st' := by
  refine metI_of (cc := cX6_of) (nL := 3) (ty := .int) (by decide) rfl (Nat.le_of_ble_eq_true rfl) rfl ?_
  intro p e s m below meth c Q A C hret H locs hI ls hl
  have C : Cx p s m _ c cX6_of 3 wsX6_of RX6 g A := C
  obtain ⟨hx, hb, hml, hown, hts⟩ := id C.1
  have hl : lv_has ls 3 [(0, .ref (am 0)), (1, .int x1), (2, .int x2)] := hl
  have lc48 := hts (.constant RX6 48 (-100001)) (by decide +kernel)
  have hinRX6 : ∀ w ∈ u_ws RX6 TX6 16, w ∈ wsX6_of := by decide +kernel
  have lk9 := hts (.fieldLink RX6 9 "GraveRowsModel" "now" "[I") (by decide +kernel)
  rw [f_X6_of] at h
  refine lv_aload_n hx hb dX6_of_0 rfl (lv_at hl 0 rfl) ?_
  refine lv_iload_n hx hb dX6_of_1 rfl (lv_at hl 1 rfl) ?_
  refine callV_I (rest := []) C hI (c_X6_isGrave l g X am x1 st) (cwV 1 hts gX6_of_X6_isGrave rfl rfl rfl hv_X6_isGrave ⟨Nat.le_of_ble_eq_true rfl, Nat.le_of_ble_eq_true rfl⟩) (w_recv C hI X.length wM_ob rfl) rfl hl.1 rfl (Nat.le_of_ble_eq_true rfl) dX6_of_2 (fun H locs hI => ?_)
  refine gen_b h (fun r_1 h => ?_)
  refine lv_if_eq (tgt := 18) hx hb dX6_of_5 (by decide) (fun c_2 => ?_) (fun c_2 => ?_)
  · replace h := (if_pos c_2).symm.trans h
    refine lv_aload_n hx hb dX6_of_18 rfl (lv_at hl 0 rfl) ?_
    refine lv_ldc (v := (-100001)) hx hb hown lc48 dX6_of_19 ?_
    obtain ⟨r_4, st_5, hr_3, h⟩ := bd2_some h
    refine callV_I (rest := []) C hI (c_X6_finding l g X am (-100001) st hr_3) (cwV 1 hts gX6_of_X6_finding rfl rfl rfl hv_X6_finding ⟨Nat.le_of_ble_eq_true rfl, Nat.le_of_ble_eq_true rfl⟩) (w_recv C hI X.length wM_ob rfl) rfl hl.1 rfl (Nat.le_of_ble_eq_true rfl) dX6_of_21 (fun H locs hI => ?_)
    cases h
    exact hret H locs _ ls hI dX6_of_24
  · replace h := (if_neg c_2).symm.trans h
    refine lv_iload_n hx hb dX6_of_8 rfl (lv_at hl 2 rfl) ?_
    refine lv_iconst (v := 0) hx hb dX6_of_9 (by decide) ?_
    refine lv_bipush (v := 7) hx hb dX6_of_10 (by decide) ?_
    refine callS_S (rest := []) C.1 (c_X6_within l x2 0 7) (va_cwS 3 hts gX6_of_X6_within rfl rfl rfl hd_X6_within ⟨Nat.le_of_ble_eq_true rfl, Nat.le_of_ble_eq_true rfl⟩) rfl hl.1 rfl (Nat.le_of_ble_eq_true rfl) dX6_of_12 ?_
    refine gen_b h (fun r_6 h => ?_)
    refine lv_if_ne (tgt := 25) hx hb dX6_of_15 (by decide) (fun c_7 => ?_) (fun c_7 => ?_)
    · replace h := (if_neg c_7).symm.trans h
      refine lv_iload_n hx hb dX6_of_25 rfl (lv_at hl 2 rfl) ?_
      refine lv_bipush (v := 6) hx hb dX6_of_26 (by decide) ?_
      refine lv_icmp_ge (tgt := 47) hx hb dX6_of_28 (by decide) (fun c_8 => ?_) (fun c_8 => ?_)
      · replace h := (if_pos c_8).symm.trans h
        refine lv_iload_n hx hb dX6_of_47 rfl (lv_at hl 2 rfl) ?_
        refine lv_bipush (v := 6) hx hb dX6_of_48 (by decide) ?_
        refine lv_icmp_ne (tgt := 68) hx hb dX6_of_50 (by decide) (fun c_9 => ?_) (fun c_9 => ?_)
        · replace h := (if_neg c_9).symm.trans h
          refine lv_aload_n hx hb dX6_of_68 rfl (lv_at hl 0 rfl) ?_
          refine lv_iload_n hx hb dX6_of_69 rfl (lv_at hl 1 rfl) ?_
          obtain ⟨r_11, hr_10, h⟩ := bd1_some h
          refine callV_I (rest := []) C hI (c_X6_cutBy l g X am N x1 st hr_10) (cwV 1 hts gX6_of_X6_cutBy rfl rfl rfl hv_X6_cutBy ⟨Nat.le_of_ble_eq_true rfl, Nat.le_of_ble_eq_true rfl⟩) (w_recv C hI X.length wM_ob rfl) rfl hl.1 rfl (Nat.le_of_ble_eq_true rfl) dX6_of_70 (fun H locs hI => ?_)
          cases h
          exact hret H locs _ ls hI dX6_of_73
        · replace h := (if_pos c_9).symm.trans h
          refine lv_aload_n hx hb dX6_of_53 rfl (lv_at hl 0 rfl) ?_
          refine w_get (v := .ref (am 1)) C hinRX6 hI X.length wM_ob rfl 0 (by decide) lk9 rfl rfl dX6_of_54 ?_
          refine lv_bipush (v := 62) hx hb dX6_of_57 (by decide) ?_
          refine lv_iload_n hx hb dX6_of_59 rfl (lv_at hl 1 rfl) ?_
          refine lv_iadd hx hb dX6_of_60 ?_
          refine w_ld C hI (X.length + (0 + 1)) (wM_ar (by decide)) h dX6_of_61 (fun j_12 hj_12 h => ?_)
          obtain ⟨r_14, hr_13, h⟩ := bd1_some h
          refine callS_S (rest := []) C.1 (c_X6_many l N (st 0 j_12) hr_13) (va_cwS 1 hts gX6_of_X6_many rfl rfl rfl hd_X6_many ⟨Nat.le_of_ble_eq_true rfl, Nat.le_of_ble_eq_true rfl⟩) rfl hl.1 rfl (Nat.le_of_ble_eq_true rfl) dX6_of_62 ?_
          refine lv_goto (tgt := 73) hx hb dX6_of_65 (by decide) ?_
          cases h
          exact hret H locs _ ls hI dX6_of_73
      · replace h := (if_neg c_8).symm.trans h
        refine lv_aload_n hx hb dX6_of_31 rfl (lv_at hl 0 rfl) ?_
        refine w_get (v := .ref (am 1)) C hinRX6 hI X.length wM_ob rfl 0 (by decide) lk9 rfl rfl dX6_of_32 ?_
        refine lv_iconst (v := 2) hx hb dX6_of_35 (by decide) ?_
        refine lv_bipush (v := 10) hx hb dX6_of_36 (by decide) ?_
        refine lv_iload_n hx hb dX6_of_38 rfl (lv_at hl 2 rfl) ?_
        refine lv_imul hx hb dX6_of_39 ?_
        refine lv_iadd hx hb dX6_of_40 ?_
        refine lv_iload_n hx hb dX6_of_41 rfl (lv_at hl 1 rfl) ?_
        refine lv_iadd hx hb dX6_of_42 ?_
        refine w_ld C hI (X.length + (0 + 1)) (wM_ar (by decide)) h dX6_of_43 (fun j_15 hj_15 h => ?_)
        refine lv_goto (tgt := 73) hx hb dX6_of_44 (by decide) ?_
        cases h
        exact hret H locs _ ls hI dX6_of_73
    · replace h := (if_pos c_7).symm.trans h
      refine lv_aload_n hx hb dX6_of_18 rfl (lv_at hl 0 rfl) ?_
      refine lv_ldc (v := (-100001)) hx hb hown lc48 dX6_of_19 ?_
      obtain ⟨r_17, st_18, hr_16, h⟩ := bd2_some h
      refine callV_I (rest := []) C hI (c_X6_finding l g X am (-100001) st hr_16) (cwV 1 hts gX6_of_X6_finding rfl rfl rfl hv_X6_finding ⟨Nat.le_of_ble_eq_true rfl, Nat.le_of_ble_eq_true rfl⟩) (w_recv C hI X.length wM_ob rfl) rfl hl.1 rfl (Nat.le_of_ble_eq_true rfl) dX6_of_21 (fun H locs hI => ?_)
      cases h
      exact hret H locs _ ls hI dX6_of_24
theorem hv_X6_of : yX6_of.cls = RX6 ∧ yX6_of.cls ≠ "java/lang/invoke/MethodHandle" ∧ yX6_of.cls ≠ "java/lang/invoke/VarHandle" ∧ (parseMethodDescriptor yX6_of.desc).map (fun d => d.parameters.length) = some 2 := by decide +kernel
end
