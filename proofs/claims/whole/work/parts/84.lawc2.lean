set_option maxHeartbeats 4000000 in
set_option maxRecDepth 100000 in
theorem lc_10 {p : Program} {l : Launch} {e : Env} {s : State} {m : MethodId} {below : List Frame} {meth : Method} {c : Code} {H : Heap} {locs : List Loc} {b L i : Nat} {xs : Nat → Int32} {ls : Array Slot} {g : GP} {ad am : Nat → Nat} (N : Nat) {cs cs' ms ms' : St} {r : Int32} (X : LCx p s m c b L xs g) (hI : IW g (fun q => s.heap.size ≤ q) s.heap (wCX g (wM g am ms) ad cs) H locs) (hl : lv_has ls 4 [(0, .ref b), (1, .ref (ad 0)), (2, .ref (am 0)), (3, .int (nI i))]) (hi : i + 5 < L) (h1 : f_X5_put cs (xs (i + 1)) (xs (i + 2)) (xs (i + 3)) = some (r, cs')) (h2 : f_X6_put ms (xs (i + 1)) (xs (i + 2)) (xs (i + 3)) = some (r, ms'))
    (kk : ∀ (H : Heap) (locs : List Loc) (ls : Array Slot), IW g (fun q => s.heap.size ≤ q) s.heap (wCX g (wM g am ms') ad cs') H locs → lv_has ls 4 [(0, .ref b), (1, .ref (ad 0)), (2, .ref (am 0)), (3, .int (nI i))] → WL p l e s m b below meth c H locs (F0 m 1453 ls [])) : WL p l e s m b below meth c H locs (F0 m 566 ls []) := by
  obtain ⟨hx, hb, hml, hown, hts⟩ := id X.1.1
  refine lv_aload_n hx hb dL_law_566 rfl (lv_at hl 1 rfl) ?_
  refine lv_aload_n hx hb dL_law_567 rfl (lv_at hl 0 rfl) ?_
  refine lv_iload_n hx hb dL_law_568 rfl (lv_at hl 3 rfl) ?_
  refine lv_iconst (v := 1) hx hb dL_law_569 (by decide) ?_
  refine lv_iadd hx hb dL_law_570 ?_
  refine l_ld (i := i) (j := 1) X hI (by omega) (nI_add i 1) dL_law_571 ?_
  refine lv_aload_n hx hb dL_law_572 rfl (lv_at hl 0 rfl) ?_
  refine lv_iload_n hx hb dL_law_573 rfl (lv_at hl 3 rfl) ?_
  refine lv_iconst (v := 2) hx hb dL_law_574 (by decide) ?_
  refine lv_iadd hx hb dL_law_575 ?_
  refine l_ld (i := i) (j := 2) X hI (by omega) (nI_add i 2) dL_law_576 ?_
  refine lv_aload_n hx hb dL_law_577 rfl (lv_at hl 0 rfl) ?_
  refine lv_iload_n hx hb dL_law_578 rfl (lv_at hl 3 rfl) ?_
  refine lv_iconst (v := 3) hx hb dL_law_579 (by decide) ?_
  refine lv_iadd hx hb dL_law_580 ?_
  refine l_ld (i := i) (j := 3) X hI (by omega) (nI_add i 3) dL_law_581 ?_
  refine l_I (rest := []) X hI (c_X5_put l g (wM g am ms) ad (xs (i + 1)) (xs (i + 2)) (xs (i + 3)) cs h1) (cwV 3 hts gL_law_X5_put rfl rfl rfl hv_X5_put ⟨Nat.le_of_ble_eq_true rfl, Nat.le_of_ble_eq_true rfl⟩) (w_recv X.1 hI 0 at_C rfl) rfl hl.1 rfl (Nat.le_of_ble_eq_true rfl) dL_law_582 (fun H locs hI => ?_)
  refine lv_aload_n hx hb dL_law_585 rfl (lv_at hl 2 rfl) ?_
  refine lv_aload_n hx hb dL_law_586 rfl (lv_at hl 0 rfl) ?_
  refine lv_iload_n hx hb dL_law_587 rfl (lv_at hl 3 rfl) ?_
  refine lv_iconst (v := 1) hx hb dL_law_588 (by decide) ?_
  refine lv_iadd hx hb dL_law_589 ?_
  refine l_ld (i := i) (j := 1) X hI (by omega) (nI_add i 1) dL_law_590 ?_
  refine lv_aload_n hx hb dL_law_591 rfl (lv_at hl 0 rfl) ?_
  refine lv_iload_n hx hb dL_law_592 rfl (lv_at hl 3 rfl) ?_
  refine lv_iconst (v := 2) hx hb dL_law_593 (by decide) ?_
  refine lv_iadd hx hb dL_law_594 ?_
  refine l_ld (i := i) (j := 2) X hI (by omega) (nI_add i 2) dL_law_595 ?_
  refine lv_aload_n hx hb dL_law_596 rfl (lv_at hl 0 rfl) ?_
  refine lv_iload_n hx hb dL_law_597 rfl (lv_at hl 3 rfl) ?_
  refine lv_iconst (v := 3) hx hb dL_law_598 (by decide) ?_
  refine lv_iadd hx hb dL_law_599 ?_
  refine l_ld (i := i) (j := 3) X hI (by omega) (nI_add i 3) dL_law_600 ?_
  have hI : IW g (fun q => s.heap.size ≤ q) s.heap (wMX g (wC g ad cs') am ms) H locs := hI
  refine l_I (rest := [.int r]) X hI (c_X6_put l g (wC g ad cs') am (xs (i + 1)) (xs (i + 2)) (xs (i + 3)) ms h2) (cwV 3 hts gL_law_X6_put rfl rfl rfl hv_X6_put ⟨Nat.le_of_ble_eq_true rfl, Nat.le_of_ble_eq_true rfl⟩) (w_recv X.1 hI (wC g ad cs').length wM_ob rfl) rfl hl.1 rfl (Nat.le_of_ble_eq_true rfl) dL_law_601 (fun H locs hI => ?_)
  have hI : IW g (fun q => s.heap.size ≤ q) s.heap (wCX g (wM g am ms') ad cs') H locs := hI
  exact lv_icmp_eq (tgt := 1453) hx hb dL_law_604 (by decide) (fun _ => kk H locs ls hI hl) (fun cz => absurd rfl cz)
set_option maxHeartbeats 4000000 in
set_option maxRecDepth 100000 in
theorem lc_11 {p : Program} {l : Launch} {e : Env} {s : State} {m : MethodId} {below : List Frame} {meth : Method} {c : Code} {H : Heap} {locs : List Loc} {b L i : Nat} {xs : Nat → Int32} {ls : Array Slot} {g : GP} {ad am : Nat → Nat} (N : Nat) {cs cs' ms ms' : St} {r : Int32} (X : LCx p s m c b L xs g) (hI : IW g (fun q => s.heap.size ≤ q) s.heap (wCX g (wM g am ms) ad cs) H locs) (hl : lv_has ls 4 [(0, .ref b), (1, .ref (ad 0)), (2, .ref (am 0)), (3, .int (nI i))]) (hi : i + 5 < L) (h1 : f_X5_copy cs (xs (i + 1)) (xs (i + 2)) (xs (i + 3)) (xs (i + 4)) (xs (i + 5)) = some (r, cs')) (h2 : f_X6_copy N ms (xs (i + 1)) (xs (i + 2)) (xs (i + 3)) (xs (i + 4)) (xs (i + 5)) = some (r, ms'))
    (kk : ∀ (H : Heap) (locs : List Loc) (ls : Array Slot), IW g (fun q => s.heap.size ≤ q) s.heap (wCX g (wM g am ms') ad cs') H locs → lv_has ls 4 [(0, .ref b), (1, .ref (ad 0)), (2, .ref (am 0)), (3, .int (nI i))] → WL p l e s m b below meth c H locs (F0 m 1453 ls [])) : WL p l e s m b below meth c H locs (F0 m 609 ls []) := by
  obtain ⟨hx, hb, hml, hown, hts⟩ := id X.1.1
  refine lv_aload_n hx hb dL_law_609 rfl (lv_at hl 1 rfl) ?_
  refine lv_aload_n hx hb dL_law_610 rfl (lv_at hl 0 rfl) ?_
  refine lv_iload_n hx hb dL_law_611 rfl (lv_at hl 3 rfl) ?_
  refine lv_iconst (v := 1) hx hb dL_law_612 (by decide) ?_
  refine lv_iadd hx hb dL_law_613 ?_
  refine l_ld (i := i) (j := 1) X hI (by omega) (nI_add i 1) dL_law_614 ?_
  refine lv_aload_n hx hb dL_law_615 rfl (lv_at hl 0 rfl) ?_
  refine lv_iload_n hx hb dL_law_616 rfl (lv_at hl 3 rfl) ?_
  refine lv_iconst (v := 2) hx hb dL_law_617 (by decide) ?_
  refine lv_iadd hx hb dL_law_618 ?_
  refine l_ld (i := i) (j := 2) X hI (by omega) (nI_add i 2) dL_law_619 ?_
  refine lv_aload_n hx hb dL_law_620 rfl (lv_at hl 0 rfl) ?_
  refine lv_iload_n hx hb dL_law_621 rfl (lv_at hl 3 rfl) ?_
  refine lv_iconst (v := 3) hx hb dL_law_622 (by decide) ?_
  refine lv_iadd hx hb dL_law_623 ?_
  refine l_ld (i := i) (j := 3) X hI (by omega) (nI_add i 3) dL_law_624 ?_
  refine lv_aload_n hx hb dL_law_625 rfl (lv_at hl 0 rfl) ?_
  refine lv_iload_n hx hb dL_law_626 rfl (lv_at hl 3 rfl) ?_
  refine lv_iconst (v := 4) hx hb dL_law_627 (by decide) ?_
  refine lv_iadd hx hb dL_law_628 ?_
  refine l_ld (i := i) (j := 4) X hI (by omega) (nI_add i 4) dL_law_629 ?_
  refine lv_aload_n hx hb dL_law_630 rfl (lv_at hl 0 rfl) ?_
  refine lv_iload_n hx hb dL_law_631 rfl (lv_at hl 3 rfl) ?_
  refine lv_iconst (v := 5) hx hb dL_law_632 (by decide) ?_
  refine lv_iadd hx hb dL_law_633 ?_
  refine l_ld (i := i) (j := 5) X hI (by omega) (nI_add i 5) dL_law_634 ?_
  refine l_I (rest := []) X hI (c_X5_copy l g (wM g am ms) ad (xs (i + 1)) (xs (i + 2)) (xs (i + 3)) (xs (i + 4)) (xs (i + 5)) cs h1) (cwV 5 hts gL_law_X5_copy rfl rfl rfl hv_X5_copy ⟨Nat.le_of_ble_eq_true rfl, Nat.le_of_ble_eq_true rfl⟩) (w_recv X.1 hI 0 at_C rfl) rfl hl.1 rfl (Nat.le_of_ble_eq_true rfl) dL_law_635 (fun H locs hI => ?_)
  refine lv_aload_n hx hb dL_law_638 rfl (lv_at hl 2 rfl) ?_
  refine lv_aload_n hx hb dL_law_639 rfl (lv_at hl 0 rfl) ?_
  refine lv_iload_n hx hb dL_law_640 rfl (lv_at hl 3 rfl) ?_
  refine lv_iconst (v := 1) hx hb dL_law_641 (by decide) ?_
  refine lv_iadd hx hb dL_law_642 ?_
  refine l_ld (i := i) (j := 1) X hI (by omega) (nI_add i 1) dL_law_643 ?_
  refine lv_aload_n hx hb dL_law_644 rfl (lv_at hl 0 rfl) ?_
  refine lv_iload_n hx hb dL_law_645 rfl (lv_at hl 3 rfl) ?_
  refine lv_iconst (v := 2) hx hb dL_law_646 (by decide) ?_
  refine lv_iadd hx hb dL_law_647 ?_
  refine l_ld (i := i) (j := 2) X hI (by omega) (nI_add i 2) dL_law_648 ?_
  refine lv_aload_n hx hb dL_law_649 rfl (lv_at hl 0 rfl) ?_
  refine lv_iload_n hx hb dL_law_650 rfl (lv_at hl 3 rfl) ?_
  refine lv_iconst (v := 3) hx hb dL_law_651 (by decide) ?_
  refine lv_iadd hx hb dL_law_652 ?_
  refine l_ld (i := i) (j := 3) X hI (by omega) (nI_add i 3) dL_law_653 ?_
  refine lv_aload_n hx hb dL_law_654 rfl (lv_at hl 0 rfl) ?_
  refine lv_iload_n hx hb dL_law_655 rfl (lv_at hl 3 rfl) ?_
  refine lv_iconst (v := 4) hx hb dL_law_656 (by decide) ?_
  refine lv_iadd hx hb dL_law_657 ?_
  refine l_ld (i := i) (j := 4) X hI (by omega) (nI_add i 4) dL_law_658 ?_
  refine lv_aload_n hx hb dL_law_659 rfl (lv_at hl 0 rfl) ?_
  refine lv_iload_n hx hb dL_law_660 rfl (lv_at hl 3 rfl) ?_
  refine lv_iconst (v := 5) hx hb dL_law_661 (by decide) ?_
  refine lv_iadd hx hb dL_law_662 ?_
  refine l_ld (i := i) (j := 5) X hI (by omega) (nI_add i 5) dL_law_663 ?_
  have hI : IW g (fun q => s.heap.size ≤ q) s.heap (wMX g (wC g ad cs') am ms) H locs := hI
  refine l_I (rest := [.int r]) X hI (c_X6_copy l g (wC g ad cs') am N (xs (i + 1)) (xs (i + 2)) (xs (i + 3)) (xs (i + 4)) (xs (i + 5)) ms h2) (cwV 5 hts gL_law_X6_copy rfl rfl rfl hv_X6_copy ⟨Nat.le_of_ble_eq_true rfl, Nat.le_of_ble_eq_true rfl⟩) (w_recv X.1 hI (wC g ad cs').length wM_ob rfl) rfl hl.1 rfl (Nat.le_of_ble_eq_true rfl) dL_law_664 (fun H locs hI => ?_)
  have hI : IW g (fun q => s.heap.size ≤ q) s.heap (wCX g (wM g am ms') ad cs') H locs := hI
  exact lv_icmp_eq (tgt := 1453) hx hb dL_law_667 (by decide) (fun _ => kk H locs ls hI hl) (fun cz => absurd rfl cz)
set_option maxHeartbeats 4000000 in
set_option maxRecDepth 100000 in
theorem lc_12 {p : Program} {l : Launch} {e : Env} {s : State} {m : MethodId} {below : List Frame} {meth : Method} {c : Code} {H : Heap} {locs : List Loc} {b L i : Nat} {xs : Nat → Int32} {ls : Array Slot} {g : GP} {ad am : Nat → Nat} (N : Nat) {cs cs' ms ms' : St} {r : Int32} (X : LCx p s m c b L xs g) (hI : IW g (fun q => s.heap.size ≤ q) s.heap (wCX g (wM g am ms) ad cs) H locs) (hl : lv_has ls 4 [(0, .ref b), (1, .ref (ad 0)), (2, .ref (am 0)), (3, .int (nI i))]) (hi : i + 5 < L) (h1 : f_X5_read N cs (xs (i + 1)) (xs (i + 2)) = some (r, cs')) (h2 : f_X6_read N ms (xs (i + 1)) (xs (i + 2)) = some (r, ms'))
    (kk : ∀ (H : Heap) (locs : List Loc) (ls : Array Slot), IW g (fun q => s.heap.size ≤ q) s.heap (wCX g (wM g am ms') ad cs') H locs → lv_has ls 4 [(0, .ref b), (1, .ref (ad 0)), (2, .ref (am 0)), (3, .int (nI i))] → WL p l e s m b below meth c H locs (F0 m 1453 ls [])) : WL p l e s m b below meth c H locs (F0 m 672 ls []) := by
  obtain ⟨hx, hb, hml, hown, hts⟩ := id X.1.1
  refine lv_aload_n hx hb dL_law_672 rfl (lv_at hl 1 rfl) ?_
  refine lv_aload_n hx hb dL_law_673 rfl (lv_at hl 0 rfl) ?_
  refine lv_iload_n hx hb dL_law_674 rfl (lv_at hl 3 rfl) ?_
  refine lv_iconst (v := 1) hx hb dL_law_675 (by decide) ?_
  refine lv_iadd hx hb dL_law_676 ?_
  refine l_ld (i := i) (j := 1) X hI (by omega) (nI_add i 1) dL_law_677 ?_
  refine lv_aload_n hx hb dL_law_678 rfl (lv_at hl 0 rfl) ?_
  refine lv_iload_n hx hb dL_law_679 rfl (lv_at hl 3 rfl) ?_
  refine lv_iconst (v := 2) hx hb dL_law_680 (by decide) ?_
  refine lv_iadd hx hb dL_law_681 ?_
  refine l_ld (i := i) (j := 2) X hI (by omega) (nI_add i 2) dL_law_682 ?_
  refine l_I (rest := []) X hI (c_X5_read l g (wM g am ms) ad N (xs (i + 1)) (xs (i + 2)) cs h1) (cwV 2 hts gL_law_X5_read rfl rfl rfl hv_X5_read ⟨Nat.le_of_ble_eq_true rfl, Nat.le_of_ble_eq_true rfl⟩) (w_recv X.1 hI 0 at_C rfl) rfl hl.1 rfl (Nat.le_of_ble_eq_true rfl) dL_law_683 (fun H locs hI => ?_)
  refine lv_aload_n hx hb dL_law_686 rfl (lv_at hl 2 rfl) ?_
  refine lv_aload_n hx hb dL_law_687 rfl (lv_at hl 0 rfl) ?_
  refine lv_iload_n hx hb dL_law_688 rfl (lv_at hl 3 rfl) ?_
  refine lv_iconst (v := 1) hx hb dL_law_689 (by decide) ?_
  refine lv_iadd hx hb dL_law_690 ?_
  refine l_ld (i := i) (j := 1) X hI (by omega) (nI_add i 1) dL_law_691 ?_
  refine lv_aload_n hx hb dL_law_692 rfl (lv_at hl 0 rfl) ?_
  refine lv_iload_n hx hb dL_law_693 rfl (lv_at hl 3 rfl) ?_
  refine lv_iconst (v := 2) hx hb dL_law_694 (by decide) ?_
  refine lv_iadd hx hb dL_law_695 ?_
  refine l_ld (i := i) (j := 2) X hI (by omega) (nI_add i 2) dL_law_696 ?_
  have hI : IW g (fun q => s.heap.size ≤ q) s.heap (wMX g (wC g ad cs') am ms) H locs := hI
  refine l_I (rest := [.int r]) X hI (c_X6_read l g (wC g ad cs') am N (xs (i + 1)) (xs (i + 2)) ms h2) (cwV 2 hts gL_law_X6_read rfl rfl rfl hv_X6_read ⟨Nat.le_of_ble_eq_true rfl, Nat.le_of_ble_eq_true rfl⟩) (w_recv X.1 hI (wC g ad cs').length wM_ob rfl) rfl hl.1 rfl (Nat.le_of_ble_eq_true rfl) dL_law_697 (fun H locs hI => ?_)
  have hI : IW g (fun q => s.heap.size ≤ q) s.heap (wCX g (wM g am ms') ad cs') H locs := hI
  exact lv_icmp_eq (tgt := 1453) hx hb dL_law_700 (by decide) (fun _ => kk H locs ls hI hl) (fun cz => absurd rfl cz)
set_option maxHeartbeats 4000000 in
set_option maxRecDepth 100000 in
theorem lc_13 {p : Program} {l : Launch} {e : Env} {s : State} {m : MethodId} {below : List Frame} {meth : Method} {c : Code} {H : Heap} {locs : List Loc} {b L i : Nat} {xs : Nat → Int32} {ls : Array Slot} {g : GP} {ad am : Nat → Nat} (N : Nat) {cs cs' ms ms' : St} {r : Int32} (X : LCx p s m c b L xs g) (hI : IW g (fun q => s.heap.size ≤ q) s.heap (wCX g (wM g am ms) ad cs) H locs) (hl : lv_has ls 4 [(0, .ref b), (1, .ref (ad 0)), (2, .ref (am 0)), (3, .int (nI i))]) (hi : i + 5 < L) (h1 : f_X5_order N cs = some (r, cs')) (h2 : f_X6_order N ms = some (r, ms'))
    (kk : ∀ (H : Heap) (locs : List Loc) (ls : Array Slot), IW g (fun q => s.heap.size ≤ q) s.heap (wCX g (wM g am ms') ad cs') H locs → lv_has ls 4 [(0, .ref b), (1, .ref (ad 0)), (2, .ref (am 0)), (3, .int (nI i))] → WL p l e s m b below meth c H locs (F0 m 1453 ls [])) : WL p l e s m b below meth c H locs (F0 m 705 ls []) := by
  obtain ⟨hx, hb, hml, hown, hts⟩ := id X.1.1
  refine lv_aload_n hx hb dL_law_705 rfl (lv_at hl 1 rfl) ?_
  refine l_I (rest := []) X hI (c_X5_order l g (wM g am ms) ad N cs h1) (cwV 0 hts gL_law_X5_order rfl rfl rfl hv_X5_order ⟨Nat.le_of_ble_eq_true rfl, Nat.le_of_ble_eq_true rfl⟩) (w_recv X.1 hI 0 at_C rfl) rfl hl.1 rfl (Nat.le_of_ble_eq_true rfl) dL_law_706 (fun H locs hI => ?_)
  refine lv_aload_n hx hb dL_law_709 rfl (lv_at hl 2 rfl) ?_
  have hI : IW g (fun q => s.heap.size ≤ q) s.heap (wMX g (wC g ad cs') am ms) H locs := hI
  refine l_I (rest := [.int r]) X hI (c_X6_order l g (wC g ad cs') am N ms h2) (cwV 0 hts gL_law_X6_order rfl rfl rfl hv_X6_order ⟨Nat.le_of_ble_eq_true rfl, Nat.le_of_ble_eq_true rfl⟩) (w_recv X.1 hI (wC g ad cs').length wM_ob rfl) rfl hl.1 rfl (Nat.le_of_ble_eq_true rfl) dL_law_710 (fun H locs hI => ?_)
  have hI : IW g (fun q => s.heap.size ≤ q) s.heap (wCX g (wM g am ms') ad cs') H locs := hI
  exact lv_icmp_eq (tgt := 1453) hx hb dL_law_713 (by decide) (fun _ => kk H locs ls hI hl) (fun cz => absurd rfl cz)
set_option maxHeartbeats 4000000 in
set_option maxRecDepth 100000 in
theorem lc_14 {p : Program} {l : Launch} {e : Env} {s : State} {m : MethodId} {below : List Frame} {meth : Method} {c : Code} {H : Heap} {locs : List Loc} {b L i : Nat} {xs : Nat → Int32} {ls : Array Slot} {g : GP} {ad am : Nat → Nat} (N : Nat) {cs cs' ms ms' : St} {r : Int32} (X : LCx p s m c b L xs g) (hI : IW g (fun q => s.heap.size ≤ q) s.heap (wCX g (wM g am ms) ad cs) H locs) (hl : lv_has ls 4 [(0, .ref b), (1, .ref (ad 0)), (2, .ref (am 0)), (3, .int (nI i))]) (hi : i + 5 < L) (h1 : f_X5_at N cs (xs (i + 1)) = some (r, cs')) (h2 : f_X6_at N ms (xs (i + 1)) = some (r, ms'))
    (kk : ∀ (H : Heap) (locs : List Loc) (ls : Array Slot), IW g (fun q => s.heap.size ≤ q) s.heap (wCX g (wM g am ms') ad cs') H locs → lv_has ls 4 [(0, .ref b), (1, .ref (ad 0)), (2, .ref (am 0)), (3, .int (nI i))] → WL p l e s m b below meth c H locs (F0 m 1453 ls [])) : WL p l e s m b below meth c H locs (F0 m 718 ls []) := by
  obtain ⟨hx, hb, hml, hown, hts⟩ := id X.1.1
  refine lv_aload_n hx hb dL_law_718 rfl (lv_at hl 1 rfl) ?_
  refine lv_aload_n hx hb dL_law_719 rfl (lv_at hl 0 rfl) ?_
  refine lv_iload_n hx hb dL_law_720 rfl (lv_at hl 3 rfl) ?_
  refine lv_iconst (v := 1) hx hb dL_law_721 (by decide) ?_
  refine lv_iadd hx hb dL_law_722 ?_
  refine l_ld (i := i) (j := 1) X hI (by omega) (nI_add i 1) dL_law_723 ?_
  refine l_I (rest := []) X hI (c_X5_at l g (wM g am ms) ad N (xs (i + 1)) cs h1) (cwV 1 hts gL_law_X5_at rfl rfl rfl hv_X5_at ⟨Nat.le_of_ble_eq_true rfl, Nat.le_of_ble_eq_true rfl⟩) (w_recv X.1 hI 0 at_C rfl) rfl hl.1 rfl (Nat.le_of_ble_eq_true rfl) dL_law_724 (fun H locs hI => ?_)
  refine lv_aload_n hx hb dL_law_727 rfl (lv_at hl 2 rfl) ?_
  refine lv_aload_n hx hb dL_law_728 rfl (lv_at hl 0 rfl) ?_
  refine lv_iload_n hx hb dL_law_729 rfl (lv_at hl 3 rfl) ?_
  refine lv_iconst (v := 1) hx hb dL_law_730 (by decide) ?_
  refine lv_iadd hx hb dL_law_731 ?_
  refine l_ld (i := i) (j := 1) X hI (by omega) (nI_add i 1) dL_law_732 ?_
  have hI : IW g (fun q => s.heap.size ≤ q) s.heap (wMX g (wC g ad cs') am ms) H locs := hI
  refine l_I (rest := [.int r]) X hI (c_X6_at l g (wC g ad cs') am N (xs (i + 1)) ms h2) (cwV 1 hts gL_law_X6_at rfl rfl rfl hv_X6_at ⟨Nat.le_of_ble_eq_true rfl, Nat.le_of_ble_eq_true rfl⟩) (w_recv X.1 hI (wC g ad cs').length wM_ob rfl) rfl hl.1 rfl (Nat.le_of_ble_eq_true rfl) dL_law_733 (fun H locs hI => ?_)
  have hI : IW g (fun q => s.heap.size ≤ q) s.heap (wCX g (wM g am ms') ad cs') H locs := hI
  exact lv_icmp_eq (tgt := 1453) hx hb dL_law_736 (by decide) (fun _ => kk H locs ls hI hl) (fun cz => absurd rfl cz)
set_option maxHeartbeats 4000000 in
set_option maxRecDepth 100000 in
theorem lc_15 {p : Program} {l : Launch} {e : Env} {s : State} {m : MethodId} {below : List Frame} {meth : Method} {c : Code} {H : Heap} {locs : List Loc} {b L i : Nat} {xs : Nat → Int32} {ls : Array Slot} {g : GP} {ad am : Nat → Nat} (N : Nat) {cs cs' ms ms' : St} {r : Int32} (X : LCx p s m c b L xs g) (hI : IW g (fun q => s.heap.size ≤ q) s.heap (wCX g (wM g am ms) ad cs) H locs) (hl : lv_has ls 4 [(0, .ref b), (1, .ref (ad 0)), (2, .ref (am 0)), (3, .int (nI i))]) (hi : i + 5 < L) (h1 : f_X5_holes N cs (xs (i + 1)) = some (r, cs')) (h2 : f_X6_holes N ms (xs (i + 1)) = some (r, ms'))
    (kk : ∀ (H : Heap) (locs : List Loc) (ls : Array Slot), IW g (fun q => s.heap.size ≤ q) s.heap (wCX g (wM g am ms') ad cs') H locs → lv_has ls 4 [(0, .ref b), (1, .ref (ad 0)), (2, .ref (am 0)), (3, .int (nI i))] → WL p l e s m b below meth c H locs (F0 m 1453 ls [])) : WL p l e s m b below meth c H locs (F0 m 741 ls []) := by
  obtain ⟨hx, hb, hml, hown, hts⟩ := id X.1.1
  refine lv_aload_n hx hb dL_law_741 rfl (lv_at hl 1 rfl) ?_
  refine lv_aload_n hx hb dL_law_742 rfl (lv_at hl 0 rfl) ?_
  refine lv_iload_n hx hb dL_law_743 rfl (lv_at hl 3 rfl) ?_
  refine lv_iconst (v := 1) hx hb dL_law_744 (by decide) ?_
  refine lv_iadd hx hb dL_law_745 ?_
  refine l_ld (i := i) (j := 1) X hI (by omega) (nI_add i 1) dL_law_746 ?_
  refine l_I (rest := []) X hI (c_X5_holes l g (wM g am ms) ad N (xs (i + 1)) cs h1) (cwV 1 hts gL_law_X5_holes rfl rfl rfl hv_X5_holes ⟨Nat.le_of_ble_eq_true rfl, Nat.le_of_ble_eq_true rfl⟩) (w_recv X.1 hI 0 at_C rfl) rfl hl.1 rfl (Nat.le_of_ble_eq_true rfl) dL_law_747 (fun H locs hI => ?_)
  refine lv_aload_n hx hb dL_law_750 rfl (lv_at hl 2 rfl) ?_
  refine lv_aload_n hx hb dL_law_751 rfl (lv_at hl 0 rfl) ?_
  refine lv_iload_n hx hb dL_law_752 rfl (lv_at hl 3 rfl) ?_
  refine lv_iconst (v := 1) hx hb dL_law_753 (by decide) ?_
  refine lv_iadd hx hb dL_law_754 ?_
  refine l_ld (i := i) (j := 1) X hI (by omega) (nI_add i 1) dL_law_755 ?_
  have hI : IW g (fun q => s.heap.size ≤ q) s.heap (wMX g (wC g ad cs') am ms) H locs := hI
  refine l_I (rest := [.int r]) X hI (c_X6_holes l g (wC g ad cs') am N (xs (i + 1)) ms h2) (cwV 1 hts gL_law_X6_holes rfl rfl rfl hv_X6_holes ⟨Nat.le_of_ble_eq_true rfl, Nat.le_of_ble_eq_true rfl⟩) (w_recv X.1 hI (wC g ad cs').length wM_ob rfl) rfl hl.1 rfl (Nat.le_of_ble_eq_true rfl) dL_law_756 (fun H locs hI => ?_)
  have hI : IW g (fun q => s.heap.size ≤ q) s.heap (wCX g (wM g am ms') ad cs') H locs := hI
  exact lv_icmp_eq (tgt := 1453) hx hb dL_law_759 (by decide) (fun _ => kk H locs ls hI hl) (fun cz => absurd rfl cz)
set_option maxHeartbeats 4000000 in
set_option maxRecDepth 100000 in
theorem lc_16 {p : Program} {l : Launch} {e : Env} {s : State} {m : MethodId} {below : List Frame} {meth : Method} {c : Code} {H : Heap} {locs : List Loc} {b L i : Nat} {xs : Nat → Int32} {ls : Array Slot} {g : GP} {ad am : Nat → Nat} (N : Nat) {cs cs' ms ms' : St} {r : Int32} (X : LCx p s m c b L xs g) (hI : IW g (fun q => s.heap.size ≤ q) s.heap (wCX g (wM g am ms) ad cs) H locs) (hl : lv_has ls 4 [(0, .ref b), (1, .ref (ad 0)), (2, .ref (am 0)), (3, .int (nI i))]) (hi : i + 5 < L) (h1 : f_X5_good N cs (xs (i + 1)) (bz (xs (i + 2))) = some (r, cs')) (h2 : f_X6_good N ms (xs (i + 1)) (bz (xs (i + 2))) = some (r, ms'))
    (kk : ∀ (H : Heap) (locs : List Loc) (ls : Array Slot), IW g (fun q => s.heap.size ≤ q) s.heap (wCX g (wM g am ms') ad cs') H locs → lv_has ls 4 [(0, .ref b), (1, .ref (ad 0)), (2, .ref (am 0)), (3, .int (nI i))] → WL p l e s m b below meth c H locs (F0 m 1453 ls [])) : WL p l e s m b below meth c H locs (F0 m 764 ls []) := by
  obtain ⟨hx, hb, hml, hown, hts⟩ := id X.1.1
  by_cases cb2 : xs (i + 2) = 0
  · rw [bz_0 cb2] at h1 h2
    refine lv_aload_n hx hb dL_law_764 rfl (lv_at hl 1 rfl) ?_
    refine lv_aload_n hx hb dL_law_765 rfl (lv_at hl 0 rfl) ?_
    refine lv_iload_n hx hb dL_law_766 rfl (lv_at hl 3 rfl) ?_
    refine lv_iconst (v := 1) hx hb dL_law_767 (by decide) ?_
    refine lv_iadd hx hb dL_law_768 ?_
    refine l_ld (i := i) (j := 1) X hI (by omega) (nI_add i 1) dL_law_769 ?_
    refine lv_aload_n hx hb dL_law_770 rfl (lv_at hl 0 rfl) ?_
    refine lv_iload_n hx hb dL_law_771 rfl (lv_at hl 3 rfl) ?_
    refine lv_iconst (v := 2) hx hb dL_law_772 (by decide) ?_
    refine lv_iadd hx hb dL_law_773 ?_
    refine l_ld (i := i) (j := 2) X hI (by omega) (nI_add i 2) dL_law_774 ?_
    refine lv_if_eq (tgt := 782) hx hb dL_law_775 (by decide) (fun _ => ?_) (fun cz => absurd cb2 cz)
    refine lv_iconst (v := 0) hx hb dL_law_782 (by decide) ?_
    refine l_I (rest := []) X hI (c_X5_good l g (wM g am ms) ad N (xs (i + 1)) false cs h1) (cwV 2 hts gL_law_X5_good rfl rfl rfl hv_X5_good ⟨Nat.le_of_ble_eq_true rfl, Nat.le_of_ble_eq_true rfl⟩) (w_recv X.1 hI 0 at_C rfl) rfl hl.1 rfl (Nat.le_of_ble_eq_true rfl) dL_law_783 (fun H locs hI => ?_)
    refine lv_aload_n hx hb dL_law_786 rfl (lv_at hl 2 rfl) ?_
    refine lv_aload_n hx hb dL_law_787 rfl (lv_at hl 0 rfl) ?_
    refine lv_iload_n hx hb dL_law_788 rfl (lv_at hl 3 rfl) ?_
    refine lv_iconst (v := 1) hx hb dL_law_789 (by decide) ?_
    refine lv_iadd hx hb dL_law_790 ?_
    refine l_ld (i := i) (j := 1) X hI (by omega) (nI_add i 1) dL_law_791 ?_
    refine lv_aload_n hx hb dL_law_792 rfl (lv_at hl 0 rfl) ?_
    refine lv_iload_n hx hb dL_law_793 rfl (lv_at hl 3 rfl) ?_
    refine lv_iconst (v := 2) hx hb dL_law_794 (by decide) ?_
    refine lv_iadd hx hb dL_law_795 ?_
    refine l_ld (i := i) (j := 2) X hI (by omega) (nI_add i 2) dL_law_796 ?_
    refine lv_if_eq (tgt := 804) hx hb dL_law_797 (by decide) (fun _ => ?_) (fun cz => absurd cb2 cz)
    refine lv_iconst (v := 0) hx hb dL_law_804 (by decide) ?_
    have hI : IW g (fun q => s.heap.size ≤ q) s.heap (wMX g (wC g ad cs') am ms) H locs := hI
    refine l_I (rest := [.int r]) X hI (c_X6_good l g (wC g ad cs') am N (xs (i + 1)) false ms h2) (cwV 2 hts gL_law_X6_good rfl rfl rfl hv_X6_good ⟨Nat.le_of_ble_eq_true rfl, Nat.le_of_ble_eq_true rfl⟩) (w_recv X.1 hI (wC g ad cs').length wM_ob rfl) rfl hl.1 rfl (Nat.le_of_ble_eq_true rfl) dL_law_805 (fun H locs hI => ?_)
    have hI : IW g (fun q => s.heap.size ≤ q) s.heap (wCX g (wM g am ms') ad cs') H locs := hI
    exact lv_icmp_eq (tgt := 1453) hx hb dL_law_808 (by decide) (fun _ => kk H locs ls hI hl) (fun cz => absurd rfl cz)
  · rw [bz_1 cb2] at h1 h2
    refine lv_aload_n hx hb dL_law_764 rfl (lv_at hl 1 rfl) ?_
    refine lv_aload_n hx hb dL_law_765 rfl (lv_at hl 0 rfl) ?_
    refine lv_iload_n hx hb dL_law_766 rfl (lv_at hl 3 rfl) ?_
    refine lv_iconst (v := 1) hx hb dL_law_767 (by decide) ?_
    refine lv_iadd hx hb dL_law_768 ?_
    refine l_ld (i := i) (j := 1) X hI (by omega) (nI_add i 1) dL_law_769 ?_
    refine lv_aload_n hx hb dL_law_770 rfl (lv_at hl 0 rfl) ?_
    refine lv_iload_n hx hb dL_law_771 rfl (lv_at hl 3 rfl) ?_
    refine lv_iconst (v := 2) hx hb dL_law_772 (by decide) ?_
    refine lv_iadd hx hb dL_law_773 ?_
    refine l_ld (i := i) (j := 2) X hI (by omega) (nI_add i 2) dL_law_774 ?_
    refine lv_if_eq (tgt := 782) hx hb dL_law_775 (by decide) (fun cz => absurd cz cb2) (fun _ => ?_)
    refine lv_iconst (v := 1) hx hb dL_law_778 (by decide) ?_
    refine lv_goto (tgt := 783) hx hb dL_law_779 (by decide) ?_
    refine l_I (rest := []) X hI (c_X5_good l g (wM g am ms) ad N (xs (i + 1)) true cs h1) (cwV 2 hts gL_law_X5_good rfl rfl rfl hv_X5_good ⟨Nat.le_of_ble_eq_true rfl, Nat.le_of_ble_eq_true rfl⟩) (w_recv X.1 hI 0 at_C rfl) rfl hl.1 rfl (Nat.le_of_ble_eq_true rfl) dL_law_783 (fun H locs hI => ?_)
    refine lv_aload_n hx hb dL_law_786 rfl (lv_at hl 2 rfl) ?_
    refine lv_aload_n hx hb dL_law_787 rfl (lv_at hl 0 rfl) ?_
    refine lv_iload_n hx hb dL_law_788 rfl (lv_at hl 3 rfl) ?_
    refine lv_iconst (v := 1) hx hb dL_law_789 (by decide) ?_
    refine lv_iadd hx hb dL_law_790 ?_
    refine l_ld (i := i) (j := 1) X hI (by omega) (nI_add i 1) dL_law_791 ?_
    refine lv_aload_n hx hb dL_law_792 rfl (lv_at hl 0 rfl) ?_
    refine lv_iload_n hx hb dL_law_793 rfl (lv_at hl 3 rfl) ?_
    refine lv_iconst (v := 2) hx hb dL_law_794 (by decide) ?_
    refine lv_iadd hx hb dL_law_795 ?_
    refine l_ld (i := i) (j := 2) X hI (by omega) (nI_add i 2) dL_law_796 ?_
    refine lv_if_eq (tgt := 804) hx hb dL_law_797 (by decide) (fun cz => absurd cz cb2) (fun _ => ?_)
    refine lv_iconst (v := 1) hx hb dL_law_800 (by decide) ?_
    refine lv_goto (tgt := 805) hx hb dL_law_801 (by decide) ?_
    have hI : IW g (fun q => s.heap.size ≤ q) s.heap (wMX g (wC g ad cs') am ms) H locs := hI
    refine l_I (rest := [.int r]) X hI (c_X6_good l g (wC g ad cs') am N (xs (i + 1)) true ms h2) (cwV 2 hts gL_law_X6_good rfl rfl rfl hv_X6_good ⟨Nat.le_of_ble_eq_true rfl, Nat.le_of_ble_eq_true rfl⟩) (w_recv X.1 hI (wC g ad cs').length wM_ob rfl) rfl hl.1 rfl (Nat.le_of_ble_eq_true rfl) dL_law_805 (fun H locs hI => ?_)
    have hI : IW g (fun q => s.heap.size ≤ q) s.heap (wCX g (wM g am ms') ad cs') H locs := hI
    exact lv_icmp_eq (tgt := 1453) hx hb dL_law_808 (by decide) (fun _ => kk H locs ls hI hl) (fun cz => absurd rfl cz)
set_option maxHeartbeats 4000000 in
set_option maxRecDepth 100000 in
theorem lc_17 {p : Program} {l : Launch} {e : Env} {s : State} {m : MethodId} {below : List Frame} {meth : Method} {c : Code} {H : Heap} {locs : List Loc} {b L i : Nat} {xs : Nat → Int32} {ls : Array Slot} {g : GP} {ad am : Nat → Nat} (N : Nat) {cs cs' ms ms' : St} {r : Int32} (X : LCx p s m c b L xs g) (hI : IW g (fun q => s.heap.size ≤ q) s.heap (wCX g (wM g am ms) ad cs) H locs) (hl : lv_has ls 4 [(0, .ref b), (1, .ref (ad 0)), (2, .ref (am 0)), (3, .int (nI i))]) (hi : i + 5 < L) (h1 : f_X5_tell cs (xs (i + 1)) = some (r, cs')) (h2 : f_X6_tell ms (xs (i + 1)) = some (r, ms'))
    (kk : ∀ (H : Heap) (locs : List Loc) (ls : Array Slot), IW g (fun q => s.heap.size ≤ q) s.heap (wCX g (wM g am ms') ad cs') H locs → lv_has ls 4 [(0, .ref b), (1, .ref (ad 0)), (2, .ref (am 0)), (3, .int (nI i))] → WL p l e s m b below meth c H locs (F0 m 1453 ls [])) : WL p l e s m b below meth c H locs (F0 m 813 ls []) := by
  obtain ⟨hx, hb, hml, hown, hts⟩ := id X.1.1
  refine lv_aload_n hx hb dL_law_813 rfl (lv_at hl 1 rfl) ?_
  refine lv_aload_n hx hb dL_law_814 rfl (lv_at hl 0 rfl) ?_
  refine lv_iload_n hx hb dL_law_815 rfl (lv_at hl 3 rfl) ?_
  refine lv_iconst (v := 1) hx hb dL_law_816 (by decide) ?_
  refine lv_iadd hx hb dL_law_817 ?_
  refine l_ld (i := i) (j := 1) X hI (by omega) (nI_add i 1) dL_law_818 ?_
  refine l_I (rest := []) X hI (c_X5_tell l g (wM g am ms) ad (xs (i + 1)) cs h1) (cwV 1 hts gL_law_X5_tell rfl rfl rfl hv_X5_tell ⟨Nat.le_of_ble_eq_true rfl, Nat.le_of_ble_eq_true rfl⟩) (w_recv X.1 hI 0 at_C rfl) rfl hl.1 rfl (Nat.le_of_ble_eq_true rfl) dL_law_819 (fun H locs hI => ?_)
  refine lv_aload_n hx hb dL_law_822 rfl (lv_at hl 2 rfl) ?_
  refine lv_aload_n hx hb dL_law_823 rfl (lv_at hl 0 rfl) ?_
  refine lv_iload_n hx hb dL_law_824 rfl (lv_at hl 3 rfl) ?_
  refine lv_iconst (v := 1) hx hb dL_law_825 (by decide) ?_
  refine lv_iadd hx hb dL_law_826 ?_
  refine l_ld (i := i) (j := 1) X hI (by omega) (nI_add i 1) dL_law_827 ?_
  have hI : IW g (fun q => s.heap.size ≤ q) s.heap (wMX g (wC g ad cs') am ms) H locs := hI
  refine l_I (rest := [.int r]) X hI (c_X6_tell l g (wC g ad cs') am (xs (i + 1)) ms h2) (cwV 1 hts gL_law_X6_tell rfl rfl rfl hv_X6_tell ⟨Nat.le_of_ble_eq_true rfl, Nat.le_of_ble_eq_true rfl⟩) (w_recv X.1 hI (wC g ad cs').length wM_ob rfl) rfl hl.1 rfl (Nat.le_of_ble_eq_true rfl) dL_law_828 (fun H locs hI => ?_)
  have hI : IW g (fun q => s.heap.size ≤ q) s.heap (wCX g (wM g am ms') ad cs') H locs := hI
  exact lv_icmp_eq (tgt := 1453) hx hb dL_law_831 (by decide) (fun _ => kk H locs ls hI hl) (fun cz => absurd rfl cz)
set_option maxHeartbeats 4000000 in
set_option maxRecDepth 100000 in
theorem lc_18 {p : Program} {l : Launch} {e : Env} {s : State} {m : MethodId} {below : List Frame} {meth : Method} {c : Code} {H : Heap} {locs : List Loc} {b L i : Nat} {xs : Nat → Int32} {ls : Array Slot} {g : GP} {ad am : Nat → Nat} (N : Nat) {cs cs' ms ms' : St} {r : Int32} (X : LCx p s m c b L xs g) (hI : IW g (fun q => s.heap.size ≤ q) s.heap (wCX g (wM g am ms) ad cs) H locs) (hl : lv_has ls 4 [(0, .ref b), (1, .ref (ad 0)), (2, .ref (am 0)), (3, .int (nI i))]) (hi : i + 5 < L) (h1 : f_X5_check N cs = some (r, cs')) (h2 : f_X6_check N ms = some (r, ms'))
    (kk : ∀ (H : Heap) (locs : List Loc) (ls : Array Slot), IW g (fun q => s.heap.size ≤ q) s.heap (wCX g (wM g am ms') ad cs') H locs → lv_has ls 4 [(0, .ref b), (1, .ref (ad 0)), (2, .ref (am 0)), (3, .int (nI i))] → WL p l e s m b below meth c H locs (F0 m 1453 ls [])) : WL p l e s m b below meth c H locs (F0 m 836 ls []) := by
  obtain ⟨hx, hb, hml, hown, hts⟩ := id X.1.1
  refine lv_aload_n hx hb dL_law_836 rfl (lv_at hl 1 rfl) ?_
  refine l_I (rest := []) X hI (c_X5_check l g (wM g am ms) ad N cs h1) (cwV 0 hts gL_law_X5_check rfl rfl rfl hv_X5_check ⟨Nat.le_of_ble_eq_true rfl, Nat.le_of_ble_eq_true rfl⟩) (w_recv X.1 hI 0 at_C rfl) rfl hl.1 rfl (Nat.le_of_ble_eq_true rfl) dL_law_837 (fun H locs hI => ?_)
  refine lv_aload_n hx hb dL_law_840 rfl (lv_at hl 2 rfl) ?_
  have hI : IW g (fun q => s.heap.size ≤ q) s.heap (wMX g (wC g ad cs') am ms) H locs := hI
  refine l_I (rest := [.int r]) X hI (c_X6_check l g (wC g ad cs') am N ms h2) (cwV 0 hts gL_law_X6_check rfl rfl rfl hv_X6_check ⟨Nat.le_of_ble_eq_true rfl, Nat.le_of_ble_eq_true rfl⟩) (w_recv X.1 hI (wC g ad cs').length wM_ob rfl) rfl hl.1 rfl (Nat.le_of_ble_eq_true rfl) dL_law_841 (fun H locs hI => ?_)
  have hI : IW g (fun q => s.heap.size ≤ q) s.heap (wCX g (wM g am ms') ad cs') H locs := hI
  exact lv_icmp_eq (tgt := 1453) hx hb dL_law_844 (by decide) (fun _ => kk H locs ls hI hl) (fun cz => absurd rfl cz)
set_option maxHeartbeats 4000000 in
set_option maxRecDepth 100000 in
theorem lc_19 {p : Program} {l : Launch} {e : Env} {s : State} {m : MethodId} {below : List Frame} {meth : Method} {c : Code} {H : Heap} {locs : List Loc} {b L i : Nat} {xs : Nat → Int32} {ls : Array Slot} {g : GP} {ad am : Nat → Nat} (N : Nat) {cs cs' ms ms' : St} {r : Int32} (X : LCx p s m c b L xs g) (hI : IW g (fun q => s.heap.size ≤ q) s.heap (wCX g (wM g am ms) ad cs) H locs) (hl : lv_has ls 4 [(0, .ref b), (1, .ref (ad 0)), (2, .ref (am 0)), (3, .int (nI i))]) (hi : i + 5 < L) (h1 : f_X5_without N cs (xs (i + 1)) = some (r, cs')) (h2 : f_X6_without N ms (xs (i + 1)) = some (r, ms'))
    (kk : ∀ (H : Heap) (locs : List Loc) (ls : Array Slot), IW g (fun q => s.heap.size ≤ q) s.heap (wCX g (wM g am ms') ad cs') H locs → lv_has ls 4 [(0, .ref b), (1, .ref (ad 0)), (2, .ref (am 0)), (3, .int (nI i))] → WL p l e s m b below meth c H locs (F0 m 1453 ls [])) : WL p l e s m b below meth c H locs (F0 m 849 ls []) := by
  obtain ⟨hx, hb, hml, hown, hts⟩ := id X.1.1
  refine lv_aload_n hx hb dL_law_849 rfl (lv_at hl 1 rfl) ?_
  refine lv_aload_n hx hb dL_law_850 rfl (lv_at hl 0 rfl) ?_
  refine lv_iload_n hx hb dL_law_851 rfl (lv_at hl 3 rfl) ?_
  refine lv_iconst (v := 1) hx hb dL_law_852 (by decide) ?_
  refine lv_iadd hx hb dL_law_853 ?_
  refine l_ld (i := i) (j := 1) X hI (by omega) (nI_add i 1) dL_law_854 ?_
  refine l_I (rest := []) X hI (c_X5_without l g (wM g am ms) ad N (xs (i + 1)) cs h1) (cwV 1 hts gL_law_X5_without rfl rfl rfl hv_X5_without ⟨Nat.le_of_ble_eq_true rfl, Nat.le_of_ble_eq_true rfl⟩) (w_recv X.1 hI 0 at_C rfl) rfl hl.1 rfl (Nat.le_of_ble_eq_true rfl) dL_law_855 (fun H locs hI => ?_)
  refine lv_aload_n hx hb dL_law_858 rfl (lv_at hl 2 rfl) ?_
  refine lv_aload_n hx hb dL_law_859 rfl (lv_at hl 0 rfl) ?_
  refine lv_iload_n hx hb dL_law_860 rfl (lv_at hl 3 rfl) ?_
  refine lv_iconst (v := 1) hx hb dL_law_861 (by decide) ?_
  refine lv_iadd hx hb dL_law_862 ?_
  refine l_ld (i := i) (j := 1) X hI (by omega) (nI_add i 1) dL_law_863 ?_
  have hI : IW g (fun q => s.heap.size ≤ q) s.heap (wMX g (wC g ad cs') am ms) H locs := hI
  refine l_I (rest := [.int r]) X hI (c_X6_without l g (wC g ad cs') am N (xs (i + 1)) ms h2) (cwV 1 hts gL_law_X6_without rfl rfl rfl hv_X6_without ⟨Nat.le_of_ble_eq_true rfl, Nat.le_of_ble_eq_true rfl⟩) (w_recv X.1 hI (wC g ad cs').length wM_ob rfl) rfl hl.1 rfl (Nat.le_of_ble_eq_true rfl) dL_law_864 (fun H locs hI => ?_)
  have hI : IW g (fun q => s.heap.size ≤ q) s.heap (wCX g (wM g am ms') ad cs') H locs := hI
  exact lv_icmp_eq (tgt := 1453) hx hb dL_law_867 (by decide) (fun _ => kk H locs ls hI hl) (fun cz => absurd rfl cz)
