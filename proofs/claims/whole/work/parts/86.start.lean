def cs0 : St := fun c _ => if c = 9 ∨ c = 10 ∨ c = 25 ∨ c = 26 then 10 else 0
def ms0 : St := fun c j => if c = 0 then (if 92 ≤ j ∧ j < 104 then 10 else 0) else 0
def ad0 (q : Nat) (u : Nat → Nat) : Nat → Nat := fun p => match p with | 0 => q | 35 => u 36 | 36 => u 38 | 37 => u 40 | 38 => u 35 | 39 => u 37 | 40 => u 39 | p => u p
def am0 (q : Nat) (u : Nat → Nat) : Nat → Nat := fun p => match p with | 0 => q | p => u p
theorem IW_sub {g : GP} {A : Nat → Prop} {H0 H : Heap} {locs : List Loc} {ws ws' : va_W} (hI : IW g A H0 ws H locs) (is : List Nat) (hn : va_nd is = true) (hs : is.filterMap (fun i => ws[i]?) = ws') (hs2 : is.map (fun i => ws[i]?) = ws'.map some) : IW g A H0 ws' H locs := ⟨hI.1.sub is hs, hI.2.1.sub is hn hs2, hI.2.2.1, hI.2.2.2⟩
set_option maxHeartbeats 8000000 in
set_option maxRecDepth 100000 in
theorem world0 {g : GP} {A : Nat → Prop} {H0 H : Heap} {locs : List Loc} {q r : Nat} {u v : Nat → Nat} (hI : IW g A H0 (wr_Rows g q u ++ wr_Model g r v) H locs) : IW g A H0 (wCX g (wM g (am0 r v) ms0) (ad0 q u) cs0) H locs := by
  have h1 := IW_seta hI 2 rfl (x' := .inr (.inr (.inr (.inr (fun k => some (ad0 q u (7 + k))))))) (cell_congrQ (fun j hj => by rcases (show j = 0 ∨ j = 1 ∨ j = 2 ∨ j = 3 ∨ j = 4 ∨ j = 5 ∨ j = 6 ∨ j = 7 ∨ j = 8 ∨ j = 9 by omega) with rfl | rfl | rfl | rfl | rfl | rfl | rfl | rfl | rfl | rfl <;> rfl))
  have h2 := IW_seta h1 18 rfl (x' := .inr (.inr (.inr (.inr (fun k => some (ad0 q u (23 + k))))))) (cell_congrQ (fun j hj => by rcases (show j = 0 ∨ j = 1 ∨ j = 2 ∨ j = 3 ∨ j = 4 ∨ j = 5 ∨ j = 6 ∨ j = 7 ∨ j = 8 ∨ j = 9 by omega) with rfl | rfl | rfl | rfl | rfl | rfl | rfl | rfl | rfl | rfl <;> rfl))
  have h3 := IW_seta h2 33 rfl (x' := .inr (.inr (.inr (.inr (fun k => some (ad0 q u (34 + k))))))) (cell_congrQ (fun j hj => by rcases (show j = 0 ∨ j = 1 ∨ j = 2 ∨ j = 3 by omega) with rfl | rfl | rfl | rfl <;> rfl))
  exact IW_sub h3 [0, 1, 2, 3, 4, 5, 6, 7, 8, 9, 10, 11, 12, 13, 14, 15, 16, 17, 18, 19, 20, 21, 22, 23, 24, 25, 26, 27, 28, 29, 30, 31, 32, 33, 34, 36, 38, 40, 35, 37, 39, 41, 42, 43, 44, 45, 46, 47, 48, 49, 50, 51, 52, 53, 54, 55, 56, 57, 58, 59, 60, 61, 62, 63] (by decide) rfl rfl
set_option maxHeartbeats 8000000 in
set_option maxRecDepth 100000 in
/-- all that the tables and the start give: kinds, the static row, the words of the nest -/
theorem law_env {s : State} {b : Nat} (hts0 : ∀ w ∈ lw_tbl, w.before #[Value.ref b] s = true) (hgv : (Jvm.Cond.and given_1 narrow_1).before #[Value.ref b] s = true) : ∃ g : GP, va_K g.1 vwCl (tyG g) s ∧ EI s ∧ EV g (fun q => s.heap.size ≤ q) s s.heap := by
  obtain ⟨c0, iS0, hKn0⟩ := u_known (C := RX0) (T := TX0) (N := 4) (n := 4) hts0 wsX00_in (hts0 (.instantiable RX0 4) (List.mem_of_getElem? (i := 192) (by decide +kernel)))
  obtain ⟨c1, iS1, hKn1⟩ := u_known (C := RX1) (T := TX1) (N := 9) (n := 9) hts0 wsX10_in (hts0 (.instantiable RX1 9) (List.mem_of_getElem? (i := 61) (by decide +kernel)))
  obtain ⟨c2, iS2, hKn2⟩ := u_known (C := RX2) (T := TX2) (N := 7) (n := 7) hts0 wsX20_in (hts0 (.instantiable RX2 7) (List.mem_of_getElem? (i := 54) (by decide +kernel)))
  obtain ⟨c3, iS3, hKn3⟩ := u_known (C := RX3) (T := TX3) (N := 8) (n := 8) hts0 wsX30_in (hts0 (.instantiable RX3 8) (List.mem_of_getElem? (i := 159) (by decide +kernel)))
  obtain ⟨c4, iS4, hKn4⟩ := u_known (C := RX4) (T := TX4) (N := 3) (n := 3) hts0 wsX40_in (hts0 (.instantiable RX4 3) (List.mem_of_getElem? (i := 140) (by decide +kernel)))
  obtain ⟨c5, iS5, hKn5⟩ := u_known (C := RX5) (T := TX5) (N := 7) (n := 7) hts0 wsX50_in (hts0 (.instantiable RX5 7) (List.mem_of_getElem? (i := 46) (by decide +kernel)))
  obtain ⟨c6, iS6, hKn6⟩ := u_known (C := RX6) (T := TX6) (N := 16) (n := 16) hts0 wsX60_in (hts0 (.instantiable RX6 16) (List.mem_of_getElem? (i := 688) (by decide +kernel)))
  obtain ⟨dC, dI, hKc⟩ : ∃ (dC : Nat → ClassId) (dI : Nat → Nat → Nat), ∀ (k : Nat) (q : vw_C), vwCl[k]? = some q → u_Kn s q.1 q.2.1 q.2.2 (dC k) (dI k) := by
    refine ⟨fun k => match k with | 0 => c0 | 1 => c1 | 2 => c2 | 3 => c3 | 4 => c4 | 5 => c5 | _ => c6, fun k => match k with | 0 => iS0 | 1 => iS1 | 2 => iS2 | 3 => iS3 | 4 => iS4 | 5 => iS5 | _ => iS6, ?_⟩
    intro k q hq
    match k, hq with
    | 0, hq => cases hq; exact hKn0
    | 1, hq => cases hq; exact hKn1
    | 2, hq => cases hq; exact hKn2
    | 3, hq => cases hq; exact hKn3
    | 4, hq => cases hq; exact hKn4
    | 5, hq => cases hq; exact hKn5
    | 6, hq => cases hq; exact hKn6
    | k + 7, hq => simp [vwCl] at hq
  obtain ⟨cI, kI, pI, i1, i2, i3⟩ := Cond.arrayClass_spec (hts0 (.arrayClass .int) (List.mem_of_getElem? (i := 109) (by decide +kernel)))
  obtain ⟨cZ, kZ, pZ, z1, z2, z3⟩ := Cond.arrayClass_spec (hts0 (.arrayClass .boolean) (List.mem_of_getElem? (i := 211) (by decide +kernel)))
  have aG := (hts0 (.arrayOver (.object "GraveRows$Grave")) (List.mem_of_getElem? (i := 60) (by decide +kernel)))
  have aS := (hts0 (.arrayOver (.object "GraveRows$Sheet")) (List.mem_of_getElem? (i := 139) (by decide +kernel)))
  obtain ⟨pG, cG, kG, g1, g2, g3, g4, g5⟩ := Cond.arrayOver_spec aG
  obtain ⟨pS, cS, kS, s1, s2, s3, s4, s5⟩ := Cond.arrayOver_spec aS
  have hs := flat_of_before _ hgv
  obtain ⟨ka, hka, hT⟩ := va_Tof (args := #[Value.ref b]) (s := s) (tm := .static "GraveRows$Grave" "KIND_ABOVE" "[I") (ty := .int) (N := 4) (f := fun j => .int (kai j)) (A := fun q => s.heap.size ≤ q) (by decide) (hs _ (by decide +kernel)) (va_eqt (hs (Jvm.Cond.eq (Jvm.Term.length (Jvm.Term.static "GraveRows$Grave" "KIND_ABOVE" "[I")) (Jvm.Term.int (4 : Int32))) (by decide +kernel))) (fun j hj => by
    rcases (show j = 0 ∨ j = 1 ∨ j = 2 ∨ j = 3 by omega) with rfl | rfl | rfl | rfl
    · exact va_eqt (hs (Jvm.Cond.eq (Jvm.Term.elem (Jvm.Term.static "GraveRows$Grave" "KIND_ABOVE" "[I") (Jvm.Term.int (0 : Int32))) (Jvm.Term.int (-1 : Int32))) (by decide +kernel))
    · exact va_eqt (hs (Jvm.Cond.eq (Jvm.Term.elem (Jvm.Term.static "GraveRows$Grave" "KIND_ABOVE" "[I") (Jvm.Term.int (1 : Int32))) (Jvm.Term.int (0 : Int32))) (by decide +kernel))
    · exact va_eqt (hs (Jvm.Cond.eq (Jvm.Term.elem (Jvm.Term.static "GraveRows$Grave" "KIND_ABOVE" "[I") (Jvm.Term.int (2 : Int32))) (Jvm.Term.int (0 : Int32))) (by decide +kernel))
    · exact va_eqt (hs (Jvm.Cond.eq (Jvm.Term.elem (Jvm.Term.static "GraveRows$Grave" "KIND_ABOVE" "[I") (Jvm.Term.int (3 : Int32))) (Jvm.Term.int (1 : Int32))) (by decide +kernel))) (fun a ha => Nat.not_le.mpr ha)
  have hZ := va_Zref (A := fun q => s.heap.size ≤ q) (hts0 (.laysStatic "GraveRows$Grave" "KIND_ABOVE" "[I") (List.mem_of_getElem? (i := 271) (by decide +kernel))) (hts0 (.initialized "GraveRows$Grave") (List.mem_of_getElem? (i := 37) (by decide +kernel))) hka (fun a ha => Nat.not_le.mpr ha)
  refine ⟨((dC, dI), (fun k => match k with | 0 => cI | 1 => cZ | 2 => cG | _ => cS), ka), ⟨hKc, ?_⟩, ⟨va_AO.of aG, va_AO.of aS, va_Nw.of rfl (hts0 (.methodLinkNest RX2 30 yX1_init RX5) (List.mem_of_getElem? (i := 62) (by decide +kernel))), va_Nw.of rfl (hts0 (.methodLinkNest RX5 25 yX4_init RX5) (List.mem_of_getElem? (i := 141) (by decide +kernel))), va_Nw.of rfl (hts0 (.methodLinkNest RX5 28 yX3_init RX5) (List.mem_of_getElem? (i := 160) (by decide +kernel))), va_Nw.of rfl (hts0 (.methodLinkNest RX5 35 yX0_init RX5) (List.mem_of_getElem? (i := 193) (by decide +kernel)))⟩, va_Nw.of rfl (hts0 (.methodLinkNest RX2 61 yX5_isIn RX5) (List.mem_of_getElem? (i := 291) (by decide +kernel))), va_Nw.of rfl (hts0 (.methodLinkNest RX3 84 yX5_isIn RX5) (List.mem_of_getElem? (i := 428) (by decide +kernel))), hZ, hT⟩
  intro k q hq
  match k, hq with
  | 0, hq => cases hq; exact ⟨fun n z => ⟨fun k h => (by cases h), kI, i2, pI, i3⟩, i1⟩
  | 1, hq => cases hq; exact ⟨fun n z => ⟨fun k h => (by cases h), kZ, z2, pZ, z3⟩, z1⟩
  | 2, hq => cases hq; exact ⟨fun n z => ⟨fun k h => (by cases h), kG, g3, pG, g4⟩, kG, pG, g3, g4, g1, g5⟩
  | 3, hq => cases hq; exact ⟨fun n z => ⟨fun k h => (by cases h), kS, s3, pS, s4⟩, kS, pS, s3, s4, s1, s5⟩
  | k + 4, hq => simp [tyG] at hq

set_option maxHeartbeats 8000000 in
set_option maxRecDepth 100000 in
/-- the law from its entry, over a loop that goes through -/
theorem law_start {p : Program} {e : Env} {s : State} {m : MethodId} {below : List Frame} {meth : Method} {c : Code} (l : Launch) {b L : Nat} {xs : Nat → Int32} (hL : L ≤ 3072) (C0 : lw_At p s m meth c b L xs)
    (hloop : ∀ (g : GP) (ad am : Nat → Nat) (H : Heap) (locs : List Loc) (ls : Array Slot), LCx p s m c b L xs g → IW g (fun q => s.heap.size ≤ q) s.heap (wCX g (wM g am ms0) ad cs0) H locs → lv_has ls 4 [(0, .ref b), (1, .ref (ad 0)), (2, .ref (am 0)), (3, .int (nI 0))] → WL p l e s m b below meth c H locs (F0 m 18 ls [])) : W p l e room_1 s m #[Value.ref b] below meth c s.heap [] 0 0 (lw_Z below #[Value.ref b] s) (entryFrame m ([Value.ref b] : List Value).toArray 4) := by
  obtain ⟨hx, hb, hr, hml, hown, hts0, hX, hbl, hlocks, hgv⟩ := id C0
  have hts : ∀ w ∈ wsL_law, w.before #[Value.ref b] s = true := fun w h => hts0 w (wsL_law_in w h)
  obtain ⟨g, hK, hE, hV⟩ := law_env hts0 hgv
  have S : CallFix p m c code 4 s #[Value.ref b] wsL_law RL := ⟨hx, hb, hml, hown, hts⟩
  have C : CxN p s m #[Value.ref b] c code 4 wsL_law RL g := ⟨S, hK, hE⟩
  have X : LCx p s m c b L xs g := ⟨⟨S, hK, hV⟩, hX, hbl, hL⟩
  have hl := lv_entry ([.ref b]) (n := 4) (Nat.le_of_ble_eq_true rfl)
  rw [lg_entry_eq]
  generalize (lg_sl ([.ref b]) ++ List.replicate (4 - (lg_sl ([.ref b])).length) Slot.unset).toArray = ls at hl ⊢
  have hl : lv_has ls 4 [(0, .ref b)] := hl
  have hI : IW g (fun q => s.heap.size ≤ q) s.heap [] s.heap [] := ⟨fun k q h => by simp at h, ⟨fun i j p q h => by simp at h, fun k q h => by simp at h⟩, va_S.rf, fun _ h => h⟩
  refine n_new (ci := 5) (fs := [.null, .null, .null, .null, .null, .int 0, .int 0]) C hI (fun w h => List.mem_append_left _ (List.mem_append_left _ (List.mem_append_left _ (List.mem_append_left _ (List.mem_append_left _ (List.mem_append_left _ (List.mem_append_left _ (List.mem_append_right _ h)))))))) tyX5 tyX5_ok (hts0 (.classLink RL 7 RX5) (List.mem_of_getElem? (i := 45) (by decide +kernel))) (hts0 (.instantiable RX5 7) (List.mem_of_getElem? (i := 46) (by decide +kernel))) (hts0 (.initialized RX5) (List.mem_of_getElem? (i := 35) (by decide +kernel))) rfl fsX5 (Nat.le_of_ble_eq_true rfl) (Nat.le_of_ble_eq_true rfl) dL_law_0 (fun zq H hI => ?_)
  refine lv_dup hx hb dL_law_3 rfl ?_
  refine n_callI (ws := []) (rest := [.ref zq]) hK hE S hI (c_X5_init l g zq) (cwI 0 hts gL_law_X5_init rfl rfl rfl (hts0 (.initialized RX5) (List.mem_of_getElem? (i := 35) (by decide +kernel))) (hts0 (.methodLink RL 9 yX5_init) (List.mem_of_getElem? (i := 47) (by decide +kernel))) (hts0 (.instanceMethod yX5_init) (List.mem_of_getElem? (i := 48) (by decide +kernel))) rfl hd_X5_init ⟨Nat.le_of_ble_eq_true rfl, Nat.le_of_ble_eq_true rfl⟩) hl.1 (Nat.le_of_ble_eq_true rfl) dL_law_4 ⟨Nat.le_of_ble_eq_true rfl, Nat.le_of_ble_eq_true rfl⟩ (fun zu H locs hI => ?_)
  have hI : IW g (fun q => s.heap.size ≤ q) s.heap (wr_Rows g zq zu) H locs := hI
  refine lv_astore_n (lv' := [(1, .ref zq), (0, .ref b)]) hx hb dL_law_7 rfl hl (by decide) rfl (fun ls hl => ?_)
  refine n_new (ci := 6) (fs := [.null, .null, .int 0, .int 0, .null, .null, .null, .null, .int 0, .int 0, .null, .null, .null, .null, .int 0, .int 0]) C hI (fun w h => List.mem_append_left _ (List.mem_append_left _ (List.mem_append_left _ (List.mem_append_left _ (List.mem_append_left _ (List.mem_append_left _ (List.mem_append_right _ h))))))) tyX6 tyX6_ok (hts0 (.classLink RL 10 RX6) (List.mem_of_getElem? (i := 687) (by decide +kernel))) (hts0 (.instantiable RX6 16) (List.mem_of_getElem? (i := 688) (by decide +kernel))) (hts0 (.initialized RX6) (List.mem_of_getElem? (i := 41) (by decide +kernel))) rfl fsX6 (Nat.le_of_ble_eq_true rfl) (Nat.le_of_ble_eq_true rfl) dL_law_8 (fun zr H hI => ?_)
  refine lv_dup hx hb dL_law_11 rfl ?_
  refine n_callI (ws := wr_Rows g zq zu) (rest := [.ref zr]) hK hE S hI (c_X6_init l g zr) (cwI 0 hts gL_law_X6_init rfl rfl rfl (hts0 (.initialized RX6) (List.mem_of_getElem? (i := 41) (by decide +kernel))) (hts0 (.methodLink RL 12 yX6_init) (List.mem_of_getElem? (i := 689) (by decide +kernel))) (hts0 (.instanceMethod yX6_init) (List.mem_of_getElem? (i := 690) (by decide +kernel))) rfl hd_X6_init ⟨Nat.le_of_ble_eq_true rfl, Nat.le_of_ble_eq_true rfl⟩) hl.1 (Nat.le_of_ble_eq_true rfl) dL_law_12 ⟨Nat.le_of_ble_eq_true rfl, Nat.le_of_ble_eq_true rfl⟩ (fun zv H locs hI => ?_)
  refine lv_astore_n (lv' := [(2, .ref zr), (1, .ref zq), (0, .ref b)]) hx hb dL_law_15 rfl hl (by decide) rfl (fun ls hl => ?_)
  refine lv_iconst (v := 0) hx hb dL_law_16 (by decide) ?_
  refine lv_istore_n (lv' := [(3, .int 0), (2, .ref zr), (1, .ref zq), (0, .ref b)]) hx hb dL_law_17 rfl hl (by decide) rfl (fun ls hl => ?_)
  refine W.widen (k := 600000) (n := 7302250) (Nat.le_of_ble_eq_true rfl) (Nat.le_of_ble_eq_true rfl) ?_
  exact hloop g (ad0 zq zu) (am0 zr zv) H locs ls X (world0 hI) (lv_sub hl [3, 2, 1, 0] rfl)

