theorem lim_6 {i L : Nat} (hL : L ≤ 3072) (hi : i ≤ L) (h : ¬ (Int32.ofNat L - 6 < nI i)) : i + 6 ≤ L := by
  have e1 : (Int32.ofNat L - 6).toInt = (L : Int) - 6 := pk_sub_toInt (a := L) (b := 6) (by omega) (by omega)
  have e2 : (nI i).toInt = (i : Int) := nI_toInt (by omega)
  rw [Int32.lt_iff_toInt_lt, e1, e2] at h
  omega
set_option maxHeartbeats 8000000 in
set_option maxRecDepth 100000 in
theorem law_loop {p : Program} {l : Launch} {e : Env} {s : State} {m : MethodId} {below : List Frame} {meth : Method} {c : Code} {b L : Nat} {xs : Nat → Int32} {g : GP} {ad am : Nat → Nat} (N : Nat) (Rel : St → St → Prop) (hs0 : ∀ cs ms, Rel cs ms → ∀ (a1 : Int32) (a2 : Int32) (a3 : Int32), StepI Rel (f_X5_grave cs a1 a2 a3) (f_X6_grave ms a1 a2 a3)) (hs1 : ∀ cs ms, Rel cs ms → ∀ (a1 : Int32) (a2 : Int32), StepI Rel (f_X5_as N cs a1 a2) (f_X6_as ms a1 a2)) (hs2 : ∀ cs ms, Rel cs ms → ∀ (a1 : Int32) (a2 : Int32), StepI Rel (f_X5_goods cs a1 a2) (f_X6_goods ms a1 a2)) (hs3 : ∀ cs ms, Rel cs ms → ∀ (a1 : Int32) (a2 : Int32), StepI Rel (f_X5_of N cs a1 a2) (f_X6_of N ms a1 a2)) (hs4 : ∀ cs ms, Rel cs ms → ∀ (a1 : Int32) (a2 : Int32) (a3 : Int32), StepI Rel (f_X5_span cs a1 a2 a3) (f_X6_span ms a1 a2 a3)) (hs5 : ∀ cs ms, Rel cs ms → ∀ (a1 : Int32) (a2 : Int32), StepI Rel (f_X5_coin N cs a1 a2) (f_X6_coin ms a1 a2)) (hs6 : ∀ cs ms, Rel cs ms → ∀ (a1 : Int32) (a2 : Int32) (a3 : Bool), StepI Rel (f_X5_cut N cs a1 a2 a3) (f_X6_cut N ms a1 a2 a3)) (hs7 : ∀ cs ms, Rel cs ms → ∀ (a1 : Int32) (a2 : Int32), StepI Rel (f_X5_later N cs a1 a2) (f_X6_later N ms a1 a2)) (hs8 : ∀ cs ms, Rel cs ms → StepI Rel (f_X5_fill N cs) (f_X6_fill N ms)) (hs9 : ∀ cs ms, Rel cs ms → ∀ (a1 : Int32) (a2 : Int32) (a3 : Int32), StepI Rel (f_X5_sheet N cs a1 a2 a3) (f_X6_sheet N ms a1 a2 a3)) (hs10 : ∀ cs ms, Rel cs ms → ∀ (a1 : Int32) (a2 : Int32) (a3 : Int32), StepI Rel (f_X5_put cs a1 a2 a3) (f_X6_put ms a1 a2 a3)) (hs11 : ∀ cs ms, Rel cs ms → ∀ (a1 : Int32) (a2 : Int32) (a3 : Int32) (a4 : Int32) (a5 : Int32), StepI Rel (f_X5_copy cs a1 a2 a3 a4 a5) (f_X6_copy N ms a1 a2 a3 a4 a5)) (hs12 : ∀ cs ms, Rel cs ms → ∀ (a1 : Int32) (a2 : Int32), StepI Rel (f_X5_read N cs a1 a2) (f_X6_read N ms a1 a2)) (hs13 : ∀ cs ms, Rel cs ms → StepI Rel (f_X5_order N cs) (f_X6_order N ms)) (hs14 : ∀ cs ms, Rel cs ms → ∀ (a1 : Int32), StepI Rel (f_X5_at N cs a1) (f_X6_at N ms a1)) (hs15 : ∀ cs ms, Rel cs ms → ∀ (a1 : Int32), StepI Rel (f_X5_holes N cs a1) (f_X6_holes N ms a1)) (hs16 : ∀ cs ms, Rel cs ms → ∀ (a1 : Int32) (a2 : Bool), StepI Rel (f_X5_good N cs a1 a2) (f_X6_good N ms a1 a2)) (hs17 : ∀ cs ms, Rel cs ms → ∀ (a1 : Int32), StepI Rel (f_X5_tell cs a1) (f_X6_tell ms a1)) (hs18 : ∀ cs ms, Rel cs ms → StepI Rel (f_X5_check N cs) (f_X6_check N ms)) (hs19 : ∀ cs ms, Rel cs ms → ∀ (a1 : Int32), StepI Rel (f_X5_without N cs a1) (f_X6_without N ms a1)) (hs20 : ∀ cs ms, Rel cs ms → StepI Rel (f_X5_ways N cs) (f_X6_ways N ms)) (hs21 : ∀ cs ms, Rel cs ms → ∀ (a1 : Int32), StepI Rel (f_X5_stretches N cs a1) (f_X6_stretches N ms a1)) (hs22 : ∀ cs ms, Rel cs ms → ∀ (a1 : Int32) (a2 : Int32), StepI Rel (f_X5_border N cs a1 a2) (f_X6_border N ms a1 a2)) (hs23 : ∀ cs ms, Rel cs ms → ∀ (a1 : Int32) (a2 : Bool), StepI Rel (f_X5_year N cs a1 a2) (f_X6_year N ms a1 a2)) (hs24 : ∀ cs ms, Rel cs ms → StepR Rel ms (f_X5_wrong N cs) (f_X6_wrong N ms)) (hs25 : ∀ cs ms, Rel cs ms → ∀ (a1 : Int32), StepI Rel (f_X5_in N cs a1) (f_X6_in N ms a1)) (hs26 : ∀ cs ms, Rel cs ms → ∀ (a1 : Int32) (a2 : Bool), StepI Rel (f_X5_used N cs a1 a2) (f_X6_used N ms a1 a2)) (hs27 : ∀ cs ms, Rel cs ms → ∀ (a1 : Int32) (a2 : Int32), StepI Rel (f_X5_family N cs a1 a2) (f_X6_family N ms a1 a2)) (hs28 : ∀ cs ms, Rel cs ms → ∀ (a1 : Int32), StepI Rel (f_X5_families N cs a1) (f_X6_families N ms a1)) (hs29 : ∀ cs ms, Rel cs ms → ∀ (a1 : Int32) (a2 : Int32) (a3 : Bool), StepI Rel (f_X5_like N cs a1 a2 a3) (f_X6_like N ms a1 a2 a3)) (hs30 : ∀ cs ms, Rel cs ms → ∀ (a1 : Int32), StepI Rel (f_X5_nearest N cs a1) (f_X6_nearest N ms a1)) (hs31 : ∀ cs ms, Rel cs ms → ∀ (a1 : Int32) (a2 : Int32) (a3 : Bool), StepI Rel (f_X5_mark cs a1 a2 a3) (f_X6_mark ms a1 a2 a3)) (hs32 : ∀ cs ms, Rel cs ms → ∀ (a1 : Int32) (a2 : Bool) (a3 : Int32), StepI Rel (f_X5_weigh cs a1 a2 a3) (f_X6_weigh ms a1 a2 a3)) (hs33 : ∀ cs ms, Rel cs ms → ∀ (a1 : Int32) (a2 : Bool), StepL Rel (f_X5_share N cs a1 a2) (f_X6_share N ms a1 a2)) (hs34 : ∀ cs ms, Rel cs ms → ∀ (a1 : Int32), StepI Rel (f_X5_people N cs a1) (f_X6_people N ms a1)) (hs35 : ∀ cs ms, Rel cs ms → StepI Rel (f_X5_keep N cs) (f_X6_keep N ms)) (hs36 : ∀ cs ms, Rel cs ms → StepI Rel (f_X5_back N cs) (f_X6_back N ms)) (hs37 : ∀ cs ms, Rel cs ms → ∀ (a1 : Int32), StepI Rel (f_X5_told N cs a1) (f_X6_told N ms a1)) (X : LCx p s m c b L xs g) (hr : meth.sig.returnType = ret) (hlocks : meth.locks = false) :
    ∀ (n i : Nat) (cs ms : St) (H : Heap) (locs : List Loc) (ls : Array Slot), i ≤ L → L < i + n → Rel cs ms → IW g (fun q => s.heap.size ≤ q) s.heap (wCX g (wM g am ms) ad cs) H locs → lv_has ls 4 [(0, .ref b), (1, .ref (ad 0)), (2, .ref (am 0)), (3, .int (nI i))] → WL p l e s m b below meth c H locs (F0 m 18 ls []) := by
  obtain ⟨hx, hb, hml, hown, hts⟩ := id X.1.1
  intro n
  induction n with
  | zero =>
    intro i cs ms H locs ls h1 h2
    exact absurd h2 (by omega)
  | succ n ih =>
    intro i cs ms H locs ls hi hin hR hI hl
    refine lv_iload_n hx hb dL_law_18 rfl (lv_at hl 3 rfl) ?_
    refine lv_aload_n hx hb dL_law_19 rfl (lv_at hl 0 rfl) ?_
    refine va_slen hx hb X.2.1 X.2.2.1 (Nat.not_le.mpr X.2.2.1) hI.2.2.1 dL_law_20 ?_
    refine lv_bipush (v := 6) hx hb dL_law_21 (by decide) ?_
    refine lv_isub hx hb dL_law_23 ?_
    refine lv_icmp_gt (tgt := 1459) hx hb dL_law_24 (by decide) (fun c_1 => ?_) (fun c_1 => ?_)
    · refine lv_iconst (v := 1) hx hb dL_law_1459 (by decide) ?_
      refine va_forget (fun q hq => hI.2.2.1.2.2 q hq) ?_
      exact lw_ret hx hb hr hlocks dL_law_1460
    · have hi6 : i + 6 ≤ L := lim_6 X.2.2.2 hi c_1
      have hnx : ∀ (cs' ms' : St) (H : Heap) (locs : List Loc) (ls : Array Slot), Rel cs' ms' → IW g (fun q => s.heap.size ≤ q) s.heap (wCX g (wM g am ms') ad cs') H locs → lv_has ls 4 [(0, .ref b), (1, .ref (ad 0)), (2, .ref (am 0)), (3, .int (nI i))] → WL p l e s m b below meth c H locs (F0 m 1453 ls []) := by
        intro cs' ms' H locs ls hR hI hl
        refine lv_iinc (v := nI (i + 6)) (lv' := [(3, .int (nI (i + 6))), (0, .ref b), (1, .ref (ad 0)), (2, .ref (am 0))]) hx hb dL_law_1453 hl (k := 3) rfl (nI_add i 6) (by decide) rfl (fun ls hl => ?_)
        refine lv_goto (tgt := 18) hx hb dL_law_1456 (by decide) ?_
        exact ih (i + 6) cs' ms' H locs ls hi6 (by omega) hR hI (lv_sub hl [1, 2, 3, 0] rfl)
      refine lv_aload_n hx hb dL_law_27 rfl (lv_at hl 0 rfl) ?_
      refine lv_iload_n hx hb dL_law_28 rfl (lv_at hl 3 rfl) ?_
      refine l_ld (i := i) (j := 0) X hI (by omega) rfl dL_law_29 ?_
      refine lv_bipush (v := 63) hx hb dL_law_30 (by decide) ?_
      refine lv_iand hx hb dL_law_32 ?_
      obtain ⟨j, hj, ej⟩ := pk_andE (xs (i + 0)) (m := 63) 6 rfl
      refine n_top ej ?_
      rcases (show j = 0 ∨ j = 1 ∨ j = 2 ∨ j = 3 ∨ j = 4 ∨ j = 5 ∨ j = 6 ∨ j = 7 ∨ j = 8 ∨ j = 9 ∨ j = 10 ∨ j = 11 ∨ j = 12 ∨ j = 13 ∨ j = 14 ∨ j = 15 ∨ j = 16 ∨ j = 17 ∨ j = 18 ∨ j = 19 ∨ j = 20 ∨ j = 21 ∨ j = 22 ∨ j = 23 ∨ j = 24 ∨ j = 25 ∨ j = 26 ∨ j = 27 ∨ j = 28 ∨ j = 29 ∨ j = 30 ∨ j = 31 ∨ j = 32 ∨ j = 33 ∨ j = 34 ∨ j = 35 ∨ j = 36 ∨ j = 37 ∨ 38 ≤ j by omega) with rfl | rfl | rfl | rfl | rfl | rfl | rfl | rfl | rfl | rfl | rfl | rfl | rfl | rfl | rfl | rfl | rfl | rfl | rfl | rfl | rfl | rfl | rfl | rfl | rfl | rfl | rfl | rfl | rfl | rfl | rfl | rfl | rfl | rfl | rfl | rfl | rfl | rfl | hj38
      · refine lv_tableIn (tgt := 200) hx hb dL_law_33 (by decide) (by decide) (by rfl) (by decide) ?_
        obtain ⟨r, cs', ms', e1, e2, hR2⟩ := hs0 cs ms hR (xs (i + 1)) (xs (i + 2)) (xs (i + 3))
        exact lc_0 N X hI hl (by omega) e1 e2 (fun H locs ls hI hl => hnx cs' ms' H locs ls hR2 hI hl)
      · refine lv_tableIn (tgt := 243) hx hb dL_law_33 (by decide) (by decide) (by rfl) (by decide) ?_
        obtain ⟨r, cs', ms', e1, e2, hR2⟩ := hs1 cs ms hR (xs (i + 1)) (xs (i + 2))
        exact lc_1 N X hI hl (by omega) e1 e2 (fun H locs ls hI hl => hnx cs' ms' H locs ls hR2 hI hl)
      · refine lv_tableIn (tgt := 276) hx hb dL_law_33 (by decide) (by decide) (by rfl) (by decide) ?_
        obtain ⟨r, cs', ms', e1, e2, hR2⟩ := hs2 cs ms hR (xs (i + 1)) (xs (i + 2))
        exact lc_2 N X hI hl (by omega) e1 e2 (fun H locs ls hI hl => hnx cs' ms' H locs ls hR2 hI hl)
      · refine lv_tableIn (tgt := 309) hx hb dL_law_33 (by decide) (by decide) (by rfl) (by decide) ?_
        obtain ⟨r, cs', ms', e1, e2, hR2⟩ := hs3 cs ms hR (xs (i + 1)) (xs (i + 2))
        exact lc_3 N X hI hl (by omega) e1 e2 (fun H locs ls hI hl => hnx cs' ms' H locs ls hR2 hI hl)
      · refine lv_tableIn (tgt := 342) hx hb dL_law_33 (by decide) (by decide) (by rfl) (by decide) ?_
        obtain ⟨r, cs', ms', e1, e2, hR2⟩ := hs4 cs ms hR (xs (i + 1)) (xs (i + 2)) (xs (i + 3))
        exact lc_4 N X hI hl (by omega) e1 e2 (fun H locs ls hI hl => hnx cs' ms' H locs ls hR2 hI hl)
      · refine lv_tableIn (tgt := 385) hx hb dL_law_33 (by decide) (by decide) (by rfl) (by decide) ?_
        obtain ⟨r, cs', ms', e1, e2, hR2⟩ := hs5 cs ms hR (xs (i + 1)) (xs (i + 2))
        exact lc_5 N X hI hl (by omega) e1 e2 (fun H locs ls hI hl => hnx cs' ms' H locs ls hR2 hI hl)
      · refine lv_tableIn (tgt := 418) hx hb dL_law_33 (by decide) (by decide) (by rfl) (by decide) ?_
        obtain ⟨r, cs', ms', e1, e2, hR2⟩ := hs6 cs ms hR (xs (i + 1)) (xs (i + 2)) (bz (xs (i + 3)))
        exact lc_6 N X hI hl (by omega) e1 e2 (fun H locs ls hI hl => hnx cs' ms' H locs ls hR2 hI hl)
      · refine lv_tableIn (tgt := 477) hx hb dL_law_33 (by decide) (by decide) (by rfl) (by decide) ?_
        obtain ⟨r, cs', ms', e1, e2, hR2⟩ := hs7 cs ms hR (xs (i + 1)) (xs (i + 2))
        exact lc_7 N X hI hl (by omega) e1 e2 (fun H locs ls hI hl => hnx cs' ms' H locs ls hR2 hI hl)
      · refine lv_tableIn (tgt := 510) hx hb dL_law_33 (by decide) (by decide) (by rfl) (by decide) ?_
        obtain ⟨r, cs', ms', e1, e2, hR2⟩ := hs8 cs ms hR 
        exact lc_8 N X hI hl (by omega) e1 e2 (fun H locs ls hI hl => hnx cs' ms' H locs ls hR2 hI hl)
      · refine lv_tableIn (tgt := 523) hx hb dL_law_33 (by decide) (by decide) (by rfl) (by decide) ?_
        obtain ⟨r, cs', ms', e1, e2, hR2⟩ := hs9 cs ms hR (xs (i + 1)) (xs (i + 2)) (xs (i + 3))
        exact lc_9 N X hI hl (by omega) e1 e2 (fun H locs ls hI hl => hnx cs' ms' H locs ls hR2 hI hl)
      · refine lv_tableIn (tgt := 566) hx hb dL_law_33 (by decide) (by decide) (by rfl) (by decide) ?_
        obtain ⟨r, cs', ms', e1, e2, hR2⟩ := hs10 cs ms hR (xs (i + 1)) (xs (i + 2)) (xs (i + 3))
        exact lc_10 N X hI hl (by omega) e1 e2 (fun H locs ls hI hl => hnx cs' ms' H locs ls hR2 hI hl)
      · refine lv_tableIn (tgt := 609) hx hb dL_law_33 (by decide) (by decide) (by rfl) (by decide) ?_
        obtain ⟨r, cs', ms', e1, e2, hR2⟩ := hs11 cs ms hR (xs (i + 1)) (xs (i + 2)) (xs (i + 3)) (xs (i + 4)) (xs (i + 5))
        exact lc_11 N X hI hl (by omega) e1 e2 (fun H locs ls hI hl => hnx cs' ms' H locs ls hR2 hI hl)
      · refine lv_tableIn (tgt := 672) hx hb dL_law_33 (by decide) (by decide) (by rfl) (by decide) ?_
        obtain ⟨r, cs', ms', e1, e2, hR2⟩ := hs12 cs ms hR (xs (i + 1)) (xs (i + 2))
        exact lc_12 N X hI hl (by omega) e1 e2 (fun H locs ls hI hl => hnx cs' ms' H locs ls hR2 hI hl)
      · refine lv_tableIn (tgt := 705) hx hb dL_law_33 (by decide) (by decide) (by rfl) (by decide) ?_
        obtain ⟨r, cs', ms', e1, e2, hR2⟩ := hs13 cs ms hR 
        exact lc_13 N X hI hl (by omega) e1 e2 (fun H locs ls hI hl => hnx cs' ms' H locs ls hR2 hI hl)
      · refine lv_tableIn (tgt := 718) hx hb dL_law_33 (by decide) (by decide) (by rfl) (by decide) ?_
        obtain ⟨r, cs', ms', e1, e2, hR2⟩ := hs14 cs ms hR (xs (i + 1))
        exact lc_14 N X hI hl (by omega) e1 e2 (fun H locs ls hI hl => hnx cs' ms' H locs ls hR2 hI hl)
      · refine lv_tableIn (tgt := 741) hx hb dL_law_33 (by decide) (by decide) (by rfl) (by decide) ?_
        obtain ⟨r, cs', ms', e1, e2, hR2⟩ := hs15 cs ms hR (xs (i + 1))
        exact lc_15 N X hI hl (by omega) e1 e2 (fun H locs ls hI hl => hnx cs' ms' H locs ls hR2 hI hl)
      · refine lv_tableIn (tgt := 764) hx hb dL_law_33 (by decide) (by decide) (by rfl) (by decide) ?_
        obtain ⟨r, cs', ms', e1, e2, hR2⟩ := hs16 cs ms hR (xs (i + 1)) (bz (xs (i + 2)))
        exact lc_16 N X hI hl (by omega) e1 e2 (fun H locs ls hI hl => hnx cs' ms' H locs ls hR2 hI hl)
      · refine lv_tableIn (tgt := 813) hx hb dL_law_33 (by decide) (by decide) (by rfl) (by decide) ?_
        obtain ⟨r, cs', ms', e1, e2, hR2⟩ := hs17 cs ms hR (xs (i + 1))
        exact lc_17 N X hI hl (by omega) e1 e2 (fun H locs ls hI hl => hnx cs' ms' H locs ls hR2 hI hl)
      · refine lv_tableIn (tgt := 836) hx hb dL_law_33 (by decide) (by decide) (by rfl) (by decide) ?_
        obtain ⟨r, cs', ms', e1, e2, hR2⟩ := hs18 cs ms hR 
        exact lc_18 N X hI hl (by omega) e1 e2 (fun H locs ls hI hl => hnx cs' ms' H locs ls hR2 hI hl)
      · refine lv_tableIn (tgt := 849) hx hb dL_law_33 (by decide) (by decide) (by rfl) (by decide) ?_
        obtain ⟨r, cs', ms', e1, e2, hR2⟩ := hs19 cs ms hR (xs (i + 1))
        exact lc_19 N X hI hl (by omega) e1 e2 (fun H locs ls hI hl => hnx cs' ms' H locs ls hR2 hI hl)
      · refine lv_tableIn (tgt := 872) hx hb dL_law_33 (by decide) (by decide) (by rfl) (by decide) ?_
        obtain ⟨r, cs', ms', e1, e2, hR2⟩ := hs20 cs ms hR 
        exact lc_20 N X hI hl (by omega) e1 e2 (fun H locs ls hI hl => hnx cs' ms' H locs ls hR2 hI hl)
      · refine lv_tableIn (tgt := 885) hx hb dL_law_33 (by decide) (by decide) (by rfl) (by decide) ?_
        obtain ⟨r, cs', ms', e1, e2, hR2⟩ := hs21 cs ms hR (xs (i + 1))
        exact lc_21 N X hI hl (by omega) e1 e2 (fun H locs ls hI hl => hnx cs' ms' H locs ls hR2 hI hl)
      · refine lv_tableIn (tgt := 908) hx hb dL_law_33 (by decide) (by decide) (by rfl) (by decide) ?_
        obtain ⟨r, cs', ms', e1, e2, hR2⟩ := hs22 cs ms hR (xs (i + 1)) (xs (i + 2))
        exact lc_22 N X hI hl (by omega) e1 e2 (fun H locs ls hI hl => hnx cs' ms' H locs ls hR2 hI hl)
      · refine lv_tableIn (tgt := 941) hx hb dL_law_33 (by decide) (by decide) (by rfl) (by decide) ?_
        obtain ⟨r, cs', ms', e1, e2, hR2⟩ := hs23 cs ms hR (xs (i + 1)) (bz (xs (i + 2)))
        exact lc_23 N X hI hl (by omega) e1 e2 (fun H locs ls hI hl => hnx cs' ms' H locs ls hR2 hI hl)
      · refine lv_tableIn (tgt := 990) hx hb dL_law_33 (by decide) (by decide) (by rfl) (by decide) ?_
        obtain ⟨r, cs', e1, e2, hR2⟩ := hs24 cs ms hR 
        exact lc_24 N X hI hl (by omega) e1 e2 (fun H locs ls hI hl => hnx cs' ms H locs ls hR2 hI hl)
      · refine lv_tableIn (tgt := 1003) hx hb dL_law_33 (by decide) (by decide) (by rfl) (by decide) ?_
        obtain ⟨r, cs', ms', e1, e2, hR2⟩ := hs25 cs ms hR (xs (i + 1))
        exact lc_25 N X hI hl (by omega) e1 e2 (fun H locs ls hI hl => hnx cs' ms' H locs ls hR2 hI hl)
      · refine lv_tableIn (tgt := 1026) hx hb dL_law_33 (by decide) (by decide) (by rfl) (by decide) ?_
        obtain ⟨r, cs', ms', e1, e2, hR2⟩ := hs26 cs ms hR (xs (i + 1)) (bz (xs (i + 2)))
        exact lc_26 N X hI hl (by omega) e1 e2 (fun H locs ls hI hl => hnx cs' ms' H locs ls hR2 hI hl)
      · refine lv_tableIn (tgt := 1075) hx hb dL_law_33 (by decide) (by decide) (by rfl) (by decide) ?_
        obtain ⟨r, cs', ms', e1, e2, hR2⟩ := hs27 cs ms hR (xs (i + 1)) (xs (i + 2))
        exact lc_27 N X hI hl (by omega) e1 e2 (fun H locs ls hI hl => hnx cs' ms' H locs ls hR2 hI hl)
      · refine lv_tableIn (tgt := 1108) hx hb dL_law_33 (by decide) (by decide) (by rfl) (by decide) ?_
        obtain ⟨r, cs', ms', e1, e2, hR2⟩ := hs28 cs ms hR (xs (i + 1))
        exact lc_28 N X hI hl (by omega) e1 e2 (fun H locs ls hI hl => hnx cs' ms' H locs ls hR2 hI hl)
      · refine lv_tableIn (tgt := 1131) hx hb dL_law_33 (by decide) (by decide) (by rfl) (by decide) ?_
        obtain ⟨r, cs', ms', e1, e2, hR2⟩ := hs29 cs ms hR (xs (i + 1)) (xs (i + 2)) (bz (xs (i + 3)))
        exact lc_29 N X hI hl (by omega) e1 e2 (fun H locs ls hI hl => hnx cs' ms' H locs ls hR2 hI hl)
      · refine lv_tableIn (tgt := 1190) hx hb dL_law_33 (by decide) (by decide) (by rfl) (by decide) ?_
        obtain ⟨r, cs', ms', e1, e2, hR2⟩ := hs30 cs ms hR (xs (i + 1))
        exact lc_30 N X hI hl (by omega) e1 e2 (fun H locs ls hI hl => hnx cs' ms' H locs ls hR2 hI hl)
      · refine lv_tableIn (tgt := 1213) hx hb dL_law_33 (by decide) (by decide) (by rfl) (by decide) ?_
        obtain ⟨r, cs', ms', e1, e2, hR2⟩ := hs31 cs ms hR (xs (i + 1)) (xs (i + 2)) (bz (xs (i + 3)))
        exact lc_31 N X hI hl (by omega) e1 e2 (fun H locs ls hI hl => hnx cs' ms' H locs ls hR2 hI hl)
      · refine lv_tableIn (tgt := 1272) hx hb dL_law_33 (by decide) (by decide) (by rfl) (by decide) ?_
        obtain ⟨r, cs', ms', e1, e2, hR2⟩ := hs32 cs ms hR (xs (i + 1)) (bz (xs (i + 2))) (xs (i + 3))
        exact lc_32 N X hI hl (by omega) e1 e2 (fun H locs ls hI hl => hnx cs' ms' H locs ls hR2 hI hl)
      · refine lv_tableIn (tgt := 1331) hx hb dL_law_33 (by decide) (by decide) (by rfl) (by decide) ?_
        obtain ⟨r, cs', ms', e1, e2, hR2⟩ := hs33 cs ms hR (xs (i + 1)) (bz (xs (i + 2)))
        exact lc_33 N X hI hl (by omega) e1 e2 (fun H locs ls hI hl => hnx cs' ms' H locs ls hR2 hI hl)
      · refine lv_tableIn (tgt := 1381) hx hb dL_law_33 (by decide) (by decide) (by rfl) (by decide) ?_
        obtain ⟨r, cs', ms', e1, e2, hR2⟩ := hs34 cs ms hR (xs (i + 1))
        exact lc_34 N X hI hl (by omega) e1 e2 (fun H locs ls hI hl => hnx cs' ms' H locs ls hR2 hI hl)
      · refine lv_tableIn (tgt := 1404) hx hb dL_law_33 (by decide) (by decide) (by rfl) (by decide) ?_
        obtain ⟨r, cs', ms', e1, e2, hR2⟩ := hs35 cs ms hR 
        exact lc_35 N X hI hl (by omega) e1 e2 (fun H locs ls hI hl => hnx cs' ms' H locs ls hR2 hI hl)
      · refine lv_tableIn (tgt := 1417) hx hb dL_law_33 (by decide) (by decide) (by rfl) (by decide) ?_
        obtain ⟨r, cs', ms', e1, e2, hR2⟩ := hs36 cs ms hR 
        exact lc_36 N X hI hl (by omega) e1 e2 (fun H locs ls hI hl => hnx cs' ms' H locs ls hR2 hI hl)
      · refine lv_tableIn (tgt := 1430) hx hb dL_law_33 (by decide) (by decide) (by rfl) (by decide) ?_
        obtain ⟨r, cs', ms', e1, e2, hR2⟩ := hs37 cs ms hR (xs (i + 1))
        exact lc_37 N X hI hl (by omega) e1 e2 (fun H locs ls hI hl => hnx cs' ms' H locs ls hR2 hI hl)
      · refine lv_tableOut (tgt := 1453) hx hb dL_law_33 (Or.inr (by rw [nI_toInt (by omega)]; omega)) (by decide) ?_
        exact hnx cs ms H locs ls hR hI hl
