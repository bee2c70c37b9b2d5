set_option maxHeartbeats 4000000 in
set_option maxRecDepth 100000 in
theorem lc_20 {p : Program} {l : Launch} {e : Env} {s : State} {m : MethodId} {below : List Frame} {meth : Method} {c : Code} {H : Heap} {locs : List Loc} {b L i : Nat} {xs : Nat → Int32} {ls : Array Slot} {g : GP} {ad am : Nat → Nat} (N : Nat) {cs cs' ms ms' : St} {r : Int32} (X : LCx p s m c b L xs g) (hI : IW g (fun q => s.heap.size ≤ q) s.heap (wCX g (wM g am ms) ad cs) H locs) (hl : lv_has ls 4 [(0, .ref b), (1, .ref (ad 0)), (2, .ref (am 0)), (3, .int (nI i))]) (hi : i + 5 < L) (h1 : f_X5_ways N cs = some (r, cs')) (h2 : f_X6_ways N ms = some (r, ms'))
    (kk : ∀ (H : Heap) (locs : List Loc) (ls : Array Slot), IW g (fun q => s.heap.size ≤ q) s.heap (wCX g (wM g am ms') ad cs') H locs → lv_has ls 4 [(0, .ref b), (1, .ref (ad 0)), (2, .ref (am 0)), (3, .int (nI i))] → WL p l e s m b below meth c H locs (F0 m 1453 ls [])) : WL p l e s m b below meth c H locs (F0 m 872 ls []) := by
  obtain ⟨hx, hb, hml, hown, hts⟩ := id X.1.1
  refine lv_aload_n hx hb dL_law_872 rfl (lv_at hl 1 rfl) ?_
  refine l_I (rest := []) X hI (c_X5_ways l g (wM g am ms) ad N cs h1) (cwV 0 hts gL_law_X5_ways rfl rfl rfl hv_X5_ways ⟨Nat.le_of_ble_eq_true rfl, Nat.le_of_ble_eq_true rfl⟩) (w_recv X.1 hI 0 at_C rfl) rfl hl.1 rfl (Nat.le_of_ble_eq_true rfl) dL_law_873 (fun H locs hI => ?_)
  refine lv_aload_n hx hb dL_law_876 rfl (lv_at hl 2 rfl) ?_
  have hI : IW g (fun q => s.heap.size ≤ q) s.heap (wMX g (wC g ad cs') am ms) H locs := hI
  refine l_I (rest := [.int r]) X hI (c_X6_ways l g (wC g ad cs') am N ms h2) (cwV 0 hts gL_law_X6_ways rfl rfl rfl hv_X6_ways ⟨Nat.le_of_ble_eq_true rfl, Nat.le_of_ble_eq_true rfl⟩) (w_recv X.1 hI (wC g ad cs').length wM_ob rfl) rfl hl.1 rfl (Nat.le_of_ble_eq_true rfl) dL_law_877 (fun H locs hI => ?_)
  have hI : IW g (fun q => s.heap.size ≤ q) s.heap (wCX g (wM g am ms') ad cs') H locs := hI
  exact lv_icmp_eq (tgt := 1453) hx hb dL_law_880 (by decide) (fun _ => kk H locs ls hI hl) (fun cz => absurd rfl cz)
set_option maxHeartbeats 4000000 in
set_option maxRecDepth 100000 in
theorem lc_21 {p : Program} {l : Launch} {e : Env} {s : State} {m : MethodId} {below : List Frame} {meth : Method} {c : Code} {H : Heap} {locs : List Loc} {b L i : Nat} {xs : Nat → Int32} {ls : Array Slot} {g : GP} {ad am : Nat → Nat} (N : Nat) {cs cs' ms ms' : St} {r : Int32} (X : LCx p s m c b L xs g) (hI : IW g (fun q => s.heap.size ≤ q) s.heap (wCX g (wM g am ms) ad cs) H locs) (hl : lv_has ls 4 [(0, .ref b), (1, .ref (ad 0)), (2, .ref (am 0)), (3, .int (nI i))]) (hi : i + 5 < L) (h1 : f_X5_stretches N cs (xs (i + 1)) = some (r, cs')) (h2 : f_X6_stretches N ms (xs (i + 1)) = some (r, ms'))
    (kk : ∀ (H : Heap) (locs : List Loc) (ls : Array Slot), IW g (fun q => s.heap.size ≤ q) s.heap (wCX g (wM g am ms') ad cs') H locs → lv_has ls 4 [(0, .ref b), (1, .ref (ad 0)), (2, .ref (am 0)), (3, .int (nI i))] → WL p l e s m b below meth c H locs (F0 m 1453 ls [])) : WL p l e s m b below meth c H locs (F0 m 885 ls []) := by
  obtain ⟨hx, hb, hml, hown, hts⟩ := id X.1.1
  refine lv_aload_n hx hb dL_law_885 rfl (lv_at hl 1 rfl) ?_
  refine lv_aload_n hx hb dL_law_886 rfl (lv_at hl 0 rfl) ?_
  refine lv_iload_n hx hb dL_law_887 rfl (lv_at hl 3 rfl) ?_
  refine lv_iconst (v := 1) hx hb dL_law_888 (by decide) ?_
  refine lv_iadd hx hb dL_law_889 ?_
  refine l_ld (i := i) (j := 1) X hI (by omega) (nI_add i 1) dL_law_890 ?_
  refine l_I (rest := []) X hI (c_X5_stretches l g (wM g am ms) ad N (xs (i + 1)) cs h1) (cwV 1 hts gL_law_X5_stretches rfl rfl rfl hv_X5_stretches ⟨Nat.le_of_ble_eq_true rfl, Nat.le_of_ble_eq_true rfl⟩) (w_recv X.1 hI 0 at_C rfl) rfl hl.1 rfl (Nat.le_of_ble_eq_true rfl) dL_law_891 (fun H locs hI => ?_)
  refine lv_aload_n hx hb dL_law_894 rfl (lv_at hl 2 rfl) ?_
  refine lv_aload_n hx hb dL_law_895 rfl (lv_at hl 0 rfl) ?_
  refine lv_iload_n hx hb dL_law_896 rfl (lv_at hl 3 rfl) ?_
  refine lv_iconst (v := 1) hx hb dL_law_897 (by decide) ?_
  refine lv_iadd hx hb dL_law_898 ?_
  refine l_ld (i := i) (j := 1) X hI (by omega) (nI_add i 1) dL_law_899 ?_
  have hI : IW g (fun q => s.heap.size ≤ q) s.heap (wMX g (wC g ad cs') am ms) H locs := hI
  refine l_I (rest := [.int r]) X hI (c_X6_stretches l g (wC g ad cs') am N (xs (i + 1)) ms h2) (cwV 1 hts gL_law_X6_stretches rfl rfl rfl hv_X6_stretches ⟨Nat.le_of_ble_eq_true rfl, Nat.le_of_ble_eq_true rfl⟩) (w_recv X.1 hI (wC g ad cs').length wM_ob rfl) rfl hl.1 rfl (Nat.le_of_ble_eq_true rfl) dL_law_900 (fun H locs hI => ?_)
  have hI : IW g (fun q => s.heap.size ≤ q) s.heap (wCX g (wM g am ms') ad cs') H locs := hI
  exact lv_icmp_eq (tgt := 1453) hx hb dL_law_903 (by decide) (fun _ => kk H locs ls hI hl) (fun cz => absurd rfl cz)
set_option maxHeartbeats 4000000 in
set_option maxRecDepth 100000 in
theorem lc_22 {p : Program} {l : Launch} {e : Env} {s : State} {m : MethodId} {below : List Frame} {meth : Method} {c : Code} {H : Heap} {locs : List Loc} {b L i : Nat} {xs : Nat → Int32} {ls : Array Slot} {g : GP} {ad am : Nat → Nat} (N : Nat) {cs cs' ms ms' : St} {r : Int32} (X : LCx p s m c b L xs g) (hI : IW g (fun q => s.heap.size ≤ q) s.heap (wCX g (wM g am ms) ad cs) H locs) (hl : lv_has ls 4 [(0, .ref b), (1, .ref (ad 0)), (2, .ref (am 0)), (3, .int (nI i))]) (hi : i + 5 < L) (h1 : f_X5_border N cs (xs (i + 1)) (xs (i + 2)) = some (r, cs')) (h2 : f_X6_border N ms (xs (i + 1)) (xs (i + 2)) = some (r, ms'))
    (kk : ∀ (H : Heap) (locs : List Loc) (ls : Array Slot), IW g (fun q => s.heap.size ≤ q) s.heap (wCX g (wM g am ms') ad cs') H locs → lv_has ls 4 [(0, .ref b), (1, .ref (ad 0)), (2, .ref (am 0)), (3, .int (nI i))] → WL p l e s m b below meth c H locs (F0 m 1453 ls [])) : WL p l e s m b below meth c H locs (F0 m 908 ls []) := by
  obtain ⟨hx, hb, hml, hown, hts⟩ := id X.1.1
  refine lv_aload_n hx hb dL_law_908 rfl (lv_at hl 1 rfl) ?_
  refine lv_aload_n hx hb dL_law_909 rfl (lv_at hl 0 rfl) ?_
  refine lv_iload_n hx hb dL_law_910 rfl (lv_at hl 3 rfl) ?_
  refine lv_iconst (v := 1) hx hb dL_law_911 (by decide) ?_
  refine lv_iadd hx hb dL_law_912 ?_
  refine l_ld (i := i) (j := 1) X hI (by omega) (nI_add i 1) dL_law_913 ?_
  refine lv_aload_n hx hb dL_law_914 rfl (lv_at hl 0 rfl) ?_
  refine lv_iload_n hx hb dL_law_915 rfl (lv_at hl 3 rfl) ?_
  refine lv_iconst (v := 2) hx hb dL_law_916 (by decide) ?_
  refine lv_iadd hx hb dL_law_917 ?_
  refine l_ld (i := i) (j := 2) X hI (by omega) (nI_add i 2) dL_law_918 ?_
  refine l_I (rest := []) X hI (c_X5_border l g (wM g am ms) ad N (xs (i + 1)) (xs (i + 2)) cs h1) (cwV 2 hts gL_law_X5_border rfl rfl rfl hv_X5_border ⟨Nat.le_of_ble_eq_true rfl, Nat.le_of_ble_eq_true rfl⟩) (w_recv X.1 hI 0 at_C rfl) rfl hl.1 rfl (Nat.le_of_ble_eq_true rfl) dL_law_919 (fun H locs hI => ?_)
  refine lv_aload_n hx hb dL_law_922 rfl (lv_at hl 2 rfl) ?_
  refine lv_aload_n hx hb dL_law_923 rfl (lv_at hl 0 rfl) ?_
  refine lv_iload_n hx hb dL_law_924 rfl (lv_at hl 3 rfl) ?_
  refine lv_iconst (v := 1) hx hb dL_law_925 (by decide) ?_
  refine lv_iadd hx hb dL_law_926 ?_
  refine l_ld (i := i) (j := 1) X hI (by omega) (nI_add i 1) dL_law_927 ?_
  refine lv_aload_n hx hb dL_law_928 rfl (lv_at hl 0 rfl) ?_
  refine lv_iload_n hx hb dL_law_929 rfl (lv_at hl 3 rfl) ?_
  refine lv_iconst (v := 2) hx hb dL_law_930 (by decide) ?_
  refine lv_iadd hx hb dL_law_931 ?_
  refine l_ld (i := i) (j := 2) X hI (by omega) (nI_add i 2) dL_law_932 ?_
  have hI : IW g (fun q => s.heap.size ≤ q) s.heap (wMX g (wC g ad cs') am ms) H locs := hI
  refine l_I (rest := [.int r]) X hI (c_X6_border l g (wC g ad cs') am N (xs (i + 1)) (xs (i + 2)) ms h2) (cwV 2 hts gL_law_X6_border rfl rfl rfl hv_X6_border ⟨Nat.le_of_ble_eq_true rfl, Nat.le_of_ble_eq_true rfl⟩) (w_recv X.1 hI (wC g ad cs').length wM_ob rfl) rfl hl.1 rfl (Nat.le_of_ble_eq_true rfl) dL_law_933 (fun H locs hI => ?_)
  have hI : IW g (fun q => s.heap.size ≤ q) s.heap (wCX g (wM g am ms') ad cs') H locs := hI
  exact lv_icmp_eq (tgt := 1453) hx hb dL_law_936 (by decide) (fun _ => kk H locs ls hI hl) (fun cz => absurd rfl cz)
set_option maxHeartbeats 4000000 in
set_option maxRecDepth 100000 in
theorem lc_23 {p : Program} {l : Launch} {e : Env} {s : State} {m : MethodId} {below : List Frame} {meth : Method} {c : Code} {H : Heap} {locs : List Loc} {b L i : Nat} {xs : Nat → Int32} {ls : Array Slot} {g : GP} {ad am : Nat → Nat} (N : Nat) {cs cs' ms ms' : St} {r : Int32} (X : LCx p s m c b L xs g) (hI : IW g (fun q => s.heap.size ≤ q) s.heap (wCX g (wM g am ms) ad cs) H locs) (hl : lv_has ls 4 [(0, .ref b), (1, .ref (ad 0)), (2, .ref (am 0)), (3, .int (nI i))]) (hi : i + 5 < L) (h1 : f_X5_year N cs (xs (i + 1)) (bz (xs (i + 2))) = some (r, cs')) (h2 : f_X6_year N ms (xs (i + 1)) (bz (xs (i + 2))) = some (r, ms'))
    (kk : ∀ (H : Heap) (locs : List Loc) (ls : Array Slot), IW g (fun q => s.heap.size ≤ q) s.heap (wCX g (wM g am ms') ad cs') H locs → lv_has ls 4 [(0, .ref b), (1, .ref (ad 0)), (2, .ref (am 0)), (3, .int (nI i))] → WL p l e s m b below meth c H locs (F0 m 1453 ls [])) : WL p l e s m b below meth c H locs (F0 m 941 ls []) := by
  obtain ⟨hx, hb, hml, hown, hts⟩ := id X.1.1
  by_cases cb2 : xs (i + 2) = 0
  · rw [bz_0 cb2] at h1 h2
    refine lv_aload_n hx hb dL_law_941 rfl (lv_at hl 1 rfl) ?_
    refine lv_aload_n hx hb dL_law_942 rfl (lv_at hl 0 rfl) ?_
    refine lv_iload_n hx hb dL_law_943 rfl (lv_at hl 3 rfl) ?_
    refine lv_iconst (v := 1) hx hb dL_law_944 (by decide) ?_
    refine lv_iadd hx hb dL_law_945 ?_
    refine l_ld (i := i) (j := 1) X hI (by omega) (nI_add i 1) dL_law_946 ?_
    refine lv_aload_n hx hb dL_law_947 rfl (lv_at hl 0 rfl) ?_
    refine lv_iload_n hx hb dL_law_948 rfl (lv_at hl 3 rfl) ?_
    refine lv_iconst (v := 2) hx hb dL_law_949 (by decide) ?_
    refine lv_iadd hx hb dL_law_950 ?_
    refine l_ld (i := i) (j := 2) X hI (by omega) (nI_add i 2) dL_law_951 ?_
    refine lv_if_eq (tgt := 959) hx hb dL_law_952 (by decide) (fun _ => ?_) (fun cz => absurd cb2 cz)
    refine lv_iconst (v := 0) hx hb dL_law_959 (by decide) ?_
    refine l_I (rest := []) X hI (c_X5_year l g (wM g am ms) ad N (xs (i + 1)) false cs h1) (cwV 2 hts gL_law_X5_year rfl rfl rfl hv_X5_year ⟨Nat.le_of_ble_eq_true rfl, Nat.le_of_ble_eq_true rfl⟩) (w_recv X.1 hI 0 at_C rfl) rfl hl.1 rfl (Nat.le_of_ble_eq_true rfl) dL_law_960 (fun H locs hI => ?_)
    refine lv_aload_n hx hb dL_law_963 rfl (lv_at hl 2 rfl) ?_
    refine lv_aload_n hx hb dL_law_964 rfl (lv_at hl 0 rfl) ?_
    refine lv_iload_n hx hb dL_law_965 rfl (lv_at hl 3 rfl) ?_
    refine lv_iconst (v := 1) hx hb dL_law_966 (by decide) ?_
    refine lv_iadd hx hb dL_law_967 ?_
    refine l_ld (i := i) (j := 1) X hI (by omega) (nI_add i 1) dL_law_968 ?_
    refine lv_aload_n hx hb dL_law_969 rfl (lv_at hl 0 rfl) ?_
    refine lv_iload_n hx hb dL_law_970 rfl (lv_at hl 3 rfl) ?_
    refine lv_iconst (v := 2) hx hb dL_law_971 (by decide) ?_
    refine lv_iadd hx hb dL_law_972 ?_
    refine l_ld (i := i) (j := 2) X hI (by omega) (nI_add i 2) dL_law_973 ?_
    refine lv_if_eq (tgt := 981) hx hb dL_law_974 (by decide) (fun _ => ?_) (fun cz => absurd cb2 cz)
    refine lv_iconst (v := 0) hx hb dL_law_981 (by decide) ?_
    have hI : IW g (fun q => s.heap.size ≤ q) s.heap (wMX g (wC g ad cs') am ms) H locs := hI
    refine l_I (rest := [.int r]) X hI (c_X6_year l g (wC g ad cs') am N (xs (i + 1)) false ms h2) (cwV 2 hts gL_law_X6_year rfl rfl rfl hv_X6_year ⟨Nat.le_of_ble_eq_true rfl, Nat.le_of_ble_eq_true rfl⟩) (w_recv X.1 hI (wC g ad cs').length wM_ob rfl) rfl hl.1 rfl (Nat.le_of_ble_eq_true rfl) dL_law_982 (fun H locs hI => ?_)
    have hI : IW g (fun q => s.heap.size ≤ q) s.heap (wCX g (wM g am ms') ad cs') H locs := hI
    exact lv_icmp_eq (tgt := 1453) hx hb dL_law_985 (by decide) (fun _ => kk H locs ls hI hl) (fun cz => absurd rfl cz)
  · rw [bz_1 cb2] at h1 h2
    refine lv_aload_n hx hb dL_law_941 rfl (lv_at hl 1 rfl) ?_
    refine lv_aload_n hx hb dL_law_942 rfl (lv_at hl 0 rfl) ?_
    refine lv_iload_n hx hb dL_law_943 rfl (lv_at hl 3 rfl) ?_
    refine lv_iconst (v := 1) hx hb dL_law_944 (by decide) ?_
    refine lv_iadd hx hb dL_law_945 ?_
    refine l_ld (i := i) (j := 1) X hI (by omega) (nI_add i 1) dL_law_946 ?_
    refine lv_aload_n hx hb dL_law_947 rfl (lv_at hl 0 rfl) ?_
    refine lv_iload_n hx hb dL_law_948 rfl (lv_at hl 3 rfl) ?_
    refine lv_iconst (v := 2) hx hb dL_law_949 (by decide) ?_
    refine lv_iadd hx hb dL_law_950 ?_
    refine l_ld (i := i) (j := 2) X hI (by omega) (nI_add i 2) dL_law_951 ?_
    refine lv_if_eq (tgt := 959) hx hb dL_law_952 (by decide) (fun cz => absurd cz cb2) (fun _ => ?_)
    refine lv_iconst (v := 1) hx hb dL_law_955 (by decide) ?_
    refine lv_goto (tgt := 960) hx hb dL_law_956 (by decide) ?_
    refine l_I (rest := []) X hI (c_X5_year l g (wM g am ms) ad N (xs (i + 1)) true cs h1) (cwV 2 hts gL_law_X5_year rfl rfl rfl hv_X5_year ⟨Nat.le_of_ble_eq_true rfl, Nat.le_of_ble_eq_true rfl⟩) (w_recv X.1 hI 0 at_C rfl) rfl hl.1 rfl (Nat.le_of_ble_eq_true rfl) dL_law_960 (fun H locs hI => ?_)
    refine lv_aload_n hx hb dL_law_963 rfl (lv_at hl 2 rfl) ?_
    refine lv_aload_n hx hb dL_law_964 rfl (lv_at hl 0 rfl) ?_
    refine lv_iload_n hx hb dL_law_965 rfl (lv_at hl 3 rfl) ?_
    refine lv_iconst (v := 1) hx hb dL_law_966 (by decide) ?_
    refine lv_iadd hx hb dL_law_967 ?_
    refine l_ld (i := i) (j := 1) X hI (by omega) (nI_add i 1) dL_law_968 ?_
    refine lv_aload_n hx hb dL_law_969 rfl (lv_at hl 0 rfl) ?_
    refine lv_iload_n hx hb dL_law_970 rfl (lv_at hl 3 rfl) ?_
    refine lv_iconst (v := 2) hx hb dL_law_971 (by decide) ?_
    refine lv_iadd hx hb dL_law_972 ?_
    refine l_ld (i := i) (j := 2) X hI (by omega) (nI_add i 2) dL_law_973 ?_
    refine lv_if_eq (tgt := 981) hx hb dL_law_974 (by decide) (fun cz => absurd cz cb2) (fun _ => ?_)
    refine lv_iconst (v := 1) hx hb dL_law_977 (by decide) ?_
    refine lv_goto (tgt := 982) hx hb dL_law_978 (by decide) ?_
    have hI : IW g (fun q => s.heap.size ≤ q) s.heap (wMX g (wC g ad cs') am ms) H locs := hI
    refine l_I (rest := [.int r]) X hI (c_X6_year l g (wC g ad cs') am N (xs (i + 1)) true ms h2) (cwV 2 hts gL_law_X6_year rfl rfl rfl hv_X6_year ⟨Nat.le_of_ble_eq_true rfl, Nat.le_of_ble_eq_true rfl⟩) (w_recv X.1 hI (wC g ad cs').length wM_ob rfl) rfl hl.1 rfl (Nat.le_of_ble_eq_true rfl) dL_law_982 (fun H locs hI => ?_)
    have hI : IW g (fun q => s.heap.size ≤ q) s.heap (wCX g (wM g am ms') ad cs') H locs := hI
    exact lv_icmp_eq (tgt := 1453) hx hb dL_law_985 (by decide) (fun _ => kk H locs ls hI hl) (fun cz => absurd rfl cz)
set_option maxHeartbeats 4000000 in
set_option maxRecDepth 100000 in
theorem lc_24 {p : Program} {l : Launch} {e : Env} {s : State} {m : MethodId} {below : List Frame} {meth : Method} {c : Code} {H : Heap} {locs : List Loc} {b L i : Nat} {xs : Nat → Int32} {ls : Array Slot} {g : GP} {ad am : Nat → Nat} (N : Nat) {cs cs' ms : St} {r : Int32} (X : LCx p s m c b L xs g) (hI : IW g (fun q => s.heap.size ≤ q) s.heap (wCX g (wM g am ms) ad cs) H locs) (hl : lv_has ls 4 [(0, .ref b), (1, .ref (ad 0)), (2, .ref (am 0)), (3, .int (nI i))]) (hi : i + 5 < L) (h1 : f_X5_wrong N cs = some (r, cs')) (h2 : f_X6_wrong N ms = some r)
    (kk : ∀ (H : Heap) (locs : List Loc) (ls : Array Slot), IW g (fun q => s.heap.size ≤ q) s.heap (wCX g (wM g am ms) ad cs') H locs → lv_has ls 4 [(0, .ref b), (1, .ref (ad 0)), (2, .ref (am 0)), (3, .int (nI i))] → WL p l e s m b below meth c H locs (F0 m 1453 ls [])) : WL p l e s m b below meth c H locs (F0 m 990 ls []) := by
  obtain ⟨hx, hb, hml, hown, hts⟩ := id X.1.1
  refine lv_aload_n hx hb dL_law_990 rfl (lv_at hl 1 rfl) ?_
  refine l_I (rest := []) X hI (c_X5_wrong l g (wM g am ms) ad N cs h1) (cwV 0 hts gL_law_X5_wrong rfl rfl rfl hv_X5_wrong ⟨Nat.le_of_ble_eq_true rfl, Nat.le_of_ble_eq_true rfl⟩) (w_recv X.1 hI 0 at_C rfl) rfl hl.1 rfl (Nat.le_of_ble_eq_true rfl) dL_law_991 (fun H locs hI => ?_)
  refine lv_aload_n hx hb dL_law_994 rfl (lv_at hl 2 rfl) ?_
  have hI : IW g (fun q => s.heap.size ≤ q) s.heap (wMX g (wC g ad cs') am ms) H locs := hI
  refine l_I (rest := [.int r]) X hI (c_X6_wrong l g (wC g ad cs') am N ms h2) (cwV 0 hts gL_law_X6_wrong rfl rfl rfl hv_X6_wrong ⟨Nat.le_of_ble_eq_true rfl, Nat.le_of_ble_eq_true rfl⟩) (w_recv X.1 hI (wC g ad cs').length wM_ob rfl) rfl hl.1 rfl (Nat.le_of_ble_eq_true rfl) dL_law_995 (fun H locs hI => ?_)
  have hI : IW g (fun q => s.heap.size ≤ q) s.heap (wCX g (wM g am ms) ad cs') H locs := hI
  exact lv_icmp_eq (tgt := 1453) hx hb dL_law_998 (by decide) (fun _ => kk H locs ls hI hl) (fun cz => absurd rfl cz)
set_option maxHeartbeats 4000000 in
set_option maxRecDepth 100000 in
theorem lc_25 {p : Program} {l : Launch} {e : Env} {s : State} {m : MethodId} {below : List Frame} {meth : Method} {c : Code} {H : Heap} {locs : List Loc} {b L i : Nat} {xs : Nat → Int32} {ls : Array Slot} {g : GP} {ad am : Nat → Nat} (N : Nat) {cs cs' ms ms' : St} {r : Int32} (X : LCx p s m c b L xs g) (hI : IW g (fun q => s.heap.size ≤ q) s.heap (wCX g (wM g am ms) ad cs) H locs) (hl : lv_has ls 4 [(0, .ref b), (1, .ref (ad 0)), (2, .ref (am 0)), (3, .int (nI i))]) (hi : i + 5 < L) (h1 : f_X5_in N cs (xs (i + 1)) = some (r, cs')) (h2 : f_X6_in N ms (xs (i + 1)) = some (r, ms'))
    (kk : ∀ (H : Heap) (locs : List Loc) (ls : Array Slot), IW g (fun q => s.heap.size ≤ q) s.heap (wCX g (wM g am ms') ad cs') H locs → lv_has ls 4 [(0, .ref b), (1, .ref (ad 0)), (2, .ref (am 0)), (3, .int (nI i))] → WL p l e s m b below meth c H locs (F0 m 1453 ls [])) : WL p l e s m b below meth c H locs (F0 m 1003 ls []) := by
  obtain ⟨hx, hb, hml, hown, hts⟩ := id X.1.1
  refine lv_aload_n hx hb dL_law_1003 rfl (lv_at hl 1 rfl) ?_
  refine lv_aload_n hx hb dL_law_1004 rfl (lv_at hl 0 rfl) ?_
  refine lv_iload_n hx hb dL_law_1005 rfl (lv_at hl 3 rfl) ?_
  refine lv_iconst (v := 1) hx hb dL_law_1006 (by decide) ?_
  refine lv_iadd hx hb dL_law_1007 ?_
  refine l_ld (i := i) (j := 1) X hI (by omega) (nI_add i 1) dL_law_1008 ?_
  refine l_I (rest := []) X hI (c_X5_in l g (wM g am ms) ad N (xs (i + 1)) cs h1) (cwV 1 hts gL_law_X5_in rfl rfl rfl hv_X5_in ⟨Nat.le_of_ble_eq_true rfl, Nat.le_of_ble_eq_true rfl⟩) (w_recv X.1 hI 0 at_C rfl) rfl hl.1 rfl (Nat.le_of_ble_eq_true rfl) dL_law_1009 (fun H locs hI => ?_)
  refine lv_aload_n hx hb dL_law_1012 rfl (lv_at hl 2 rfl) ?_
  refine lv_aload_n hx hb dL_law_1013 rfl (lv_at hl 0 rfl) ?_
  refine lv_iload_n hx hb dL_law_1014 rfl (lv_at hl 3 rfl) ?_
  refine lv_iconst (v := 1) hx hb dL_law_1015 (by decide) ?_
  refine lv_iadd hx hb dL_law_1016 ?_
  refine l_ld (i := i) (j := 1) X hI (by omega) (nI_add i 1) dL_law_1017 ?_
  have hI : IW g (fun q => s.heap.size ≤ q) s.heap (wMX g (wC g ad cs') am ms) H locs := hI
  refine l_I (rest := [.int r]) X hI (c_X6_in l g (wC g ad cs') am N (xs (i + 1)) ms h2) (cwV 1 hts gL_law_X6_in rfl rfl rfl hv_X6_in ⟨Nat.le_of_ble_eq_true rfl, Nat.le_of_ble_eq_true rfl⟩) (w_recv X.1 hI (wC g ad cs').length wM_ob rfl) rfl hl.1 rfl (Nat.le_of_ble_eq_true rfl) dL_law_1018 (fun H locs hI => ?_)
  have hI : IW g (fun q => s.heap.size ≤ q) s.heap (wCX g (wM g am ms') ad cs') H locs := hI
  exact lv_icmp_eq (tgt := 1453) hx hb dL_law_1021 (by decide) (fun _ => kk H locs ls hI hl) (fun cz => absurd rfl cz)
set_option maxHeartbeats 4000000 in
set_option maxRecDepth 100000 in
theorem lc_26 {p : Program} {l : Launch} {e : Env} {s : State} {m : MethodId} {below : List Frame} {meth : Method} {c : Code} {H : Heap} {locs : List Loc} {b L i : Nat} {xs : Nat → Int32} {ls : Array Slot} {g : GP} {ad am : Nat → Nat} (N : Nat) {cs cs' ms ms' : St} {r : Int32} (X : LCx p s m c b L xs g) (hI : IW g (fun q => s.heap.size ≤ q) s.heap (wCX g (wM g am ms) ad cs) H locs) (hl : lv_has ls 4 [(0, .ref b), (1, .ref (ad 0)), (2, .ref (am 0)), (3, .int (nI i))]) (hi : i + 5 < L) (h1 : f_X5_used N cs (xs (i + 1)) (bz (xs (i + 2))) = some (r, cs')) (h2 : f_X6_used N ms (xs (i + 1)) (bz (xs (i + 2))) = some (r, ms'))
    (kk : ∀ (H : Heap) (locs : List Loc) (ls : Array Slot), IW g (fun q => s.heap.size ≤ q) s.heap (wCX g (wM g am ms') ad cs') H locs → lv_has ls 4 [(0, .ref b), (1, .ref (ad 0)), (2, .ref (am 0)), (3, .int (nI i))] → WL p l e s m b below meth c H locs (F0 m 1453 ls [])) : WL p l e s m b below meth c H locs (F0 m 1026 ls []) := by
  obtain ⟨hx, hb, hml, hown, hts⟩ := id X.1.1
  by_cases cb2 : xs (i + 2) = 0
  · rw [bz_0 cb2] at h1 h2
    refine lv_aload_n hx hb dL_law_1026 rfl (lv_at hl 1 rfl) ?_
    refine lv_aload_n hx hb dL_law_1027 rfl (lv_at hl 0 rfl) ?_
    refine lv_iload_n hx hb dL_law_1028 rfl (lv_at hl 3 rfl) ?_
    refine lv_iconst (v := 1) hx hb dL_law_1029 (by decide) ?_
    refine lv_iadd hx hb dL_law_1030 ?_
    refine l_ld (i := i) (j := 1) X hI (by omega) (nI_add i 1) dL_law_1031 ?_
    refine lv_aload_n hx hb dL_law_1032 rfl (lv_at hl 0 rfl) ?_
    refine lv_iload_n hx hb dL_law_1033 rfl (lv_at hl 3 rfl) ?_
    refine lv_iconst (v := 2) hx hb dL_law_1034 (by decide) ?_
    refine lv_iadd hx hb dL_law_1035 ?_
    refine l_ld (i := i) (j := 2) X hI (by omega) (nI_add i 2) dL_law_1036 ?_
    refine lv_if_eq (tgt := 1044) hx hb dL_law_1037 (by decide) (fun _ => ?_) (fun cz => absurd cb2 cz)
    refine lv_iconst (v := 0) hx hb dL_law_1044 (by decide) ?_
    refine l_I (rest := []) X hI (c_X5_used l g (wM g am ms) ad N (xs (i + 1)) false cs h1) (cwV 2 hts gL_law_X5_used rfl rfl rfl hv_X5_used ⟨Nat.le_of_ble_eq_true rfl, Nat.le_of_ble_eq_true rfl⟩) (w_recv X.1 hI 0 at_C rfl) rfl hl.1 rfl (Nat.le_of_ble_eq_true rfl) dL_law_1045 (fun H locs hI => ?_)
    refine lv_aload_n hx hb dL_law_1048 rfl (lv_at hl 2 rfl) ?_
    refine lv_aload_n hx hb dL_law_1049 rfl (lv_at hl 0 rfl) ?_
    refine lv_iload_n hx hb dL_law_1050 rfl (lv_at hl 3 rfl) ?_
    refine lv_iconst (v := 1) hx hb dL_law_1051 (by decide) ?_
    refine lv_iadd hx hb dL_law_1052 ?_
    refine l_ld (i := i) (j := 1) X hI (by omega) (nI_add i 1) dL_law_1053 ?_
    refine lv_aload_n hx hb dL_law_1054 rfl (lv_at hl 0 rfl) ?_
    refine lv_iload_n hx hb dL_law_1055 rfl (lv_at hl 3 rfl) ?_
    refine lv_iconst (v := 2) hx hb dL_law_1056 (by decide) ?_
    refine lv_iadd hx hb dL_law_1057 ?_
    refine l_ld (i := i) (j := 2) X hI (by omega) (nI_add i 2) dL_law_1058 ?_
    refine lv_if_eq (tgt := 1066) hx hb dL_law_1059 (by decide) (fun _ => ?_) (fun cz => absurd cb2 cz)
    refine lv_iconst (v := 0) hx hb dL_law_1066 (by decide) ?_
    have hI : IW g (fun q => s.heap.size ≤ q) s.heap (wMX g (wC g ad cs') am ms) H locs := hI
    refine l_I (rest := [.int r]) X hI (c_X6_used l g (wC g ad cs') am N (xs (i + 1)) false ms h2) (cwV 2 hts gL_law_X6_used rfl rfl rfl hv_X6_used ⟨Nat.le_of_ble_eq_true rfl, Nat.le_of_ble_eq_true rfl⟩) (w_recv X.1 hI (wC g ad cs').length wM_ob rfl) rfl hl.1 rfl (Nat.le_of_ble_eq_true rfl) dL_law_1067 (fun H locs hI => ?_)
    have hI : IW g (fun q => s.heap.size ≤ q) s.heap (wCX g (wM g am ms') ad cs') H locs := hI
    exact lv_icmp_eq (tgt := 1453) hx hb dL_law_1070 (by decide) (fun _ => kk H locs ls hI hl) (fun cz => absurd rfl cz)
  · rw [bz_1 cb2] at h1 h2
    refine lv_aload_n hx hb dL_law_1026 rfl (lv_at hl 1 rfl) ?_
    refine lv_aload_n hx hb dL_law_1027 rfl (lv_at hl 0 rfl) ?_
    refine lv_iload_n hx hb dL_law_1028 rfl (lv_at hl 3 rfl) ?_
    refine lv_iconst (v := 1) hx hb dL_law_1029 (by decide) ?_
    refine lv_iadd hx hb dL_law_1030 ?_
    refine l_ld (i := i) (j := 1) X hI (by omega) (nI_add i 1) dL_law_1031 ?_
    refine lv_aload_n hx hb dL_law_1032 rfl (lv_at hl 0 rfl) ?_
    refine lv_iload_n hx hb dL_law_1033 rfl (lv_at hl 3 rfl) ?_
    refine lv_iconst (v := 2) hx hb dL_law_1034 (by decide) ?_
    refine lv_iadd hx hb dL_law_1035 ?_
    refine l_ld (i := i) (j := 2) X hI (by omega) (nI_add i 2) dL_law_1036 ?_
    refine lv_if_eq (tgt := 1044) hx hb dL_law_1037 (by decide) (fun cz => absurd cz cb2) (fun _ => ?_)
    refine lv_iconst (v := 1) hx hb dL_law_1040 (by decide) ?_
    refine lv_goto (tgt := 1045) hx hb dL_law_1041 (by decide) ?_
    refine l_I (rest := []) X hI (c_X5_used l g (wM g am ms) ad N (xs (i + 1)) true cs h1) (cwV 2 hts gL_law_X5_used rfl rfl rfl hv_X5_used ⟨Nat.le_of_ble_eq_true rfl, Nat.le_of_ble_eq_true rfl⟩) (w_recv X.1 hI 0 at_C rfl) rfl hl.1 rfl (Nat.le_of_ble_eq_true rfl) dL_law_1045 (fun H locs hI => ?_)
    refine lv_aload_n hx hb dL_law_1048 rfl (lv_at hl 2 rfl) ?_
    refine lv_aload_n hx hb dL_law_1049 rfl (lv_at hl 0 rfl) ?_
    refine lv_iload_n hx hb dL_law_1050 rfl (lv_at hl 3 rfl) ?_
    refine lv_iconst (v := 1) hx hb dL_law_1051 (by decide) ?_
    refine lv_iadd hx hb dL_law_1052 ?_
    refine l_ld (i := i) (j := 1) X hI (by omega) (nI_add i 1) dL_law_1053 ?_
    refine lv_aload_n hx hb dL_law_1054 rfl (lv_at hl 0 rfl) ?_
    refine lv_iload_n hx hb dL_law_1055 rfl (lv_at hl 3 rfl) ?_
    refine lv_iconst (v := 2) hx hb dL_law_1056 (by decide) ?_
    refine lv_iadd hx hb dL_law_1057 ?_
    refine l_ld (i := i) (j := 2) X hI (by omega) (nI_add i 2) dL_law_1058 ?_
    refine lv_if_eq (tgt := 1066) hx hb dL_law_1059 (by decide) (fun cz => absurd cz cb2) (fun _ => ?_)
    refine lv_iconst (v := 1) hx hb dL_law_1062 (by decide) ?_
    refine lv_goto (tgt := 1067) hx hb dL_law_1063 (by decide) ?_
    have hI : IW g (fun q => s.heap.size ≤ q) s.heap (wMX g (wC g ad cs') am ms) H locs := hI
    refine l_I (rest := [.int r]) X hI (c_X6_used l g (wC g ad cs') am N (xs (i + 1)) true ms h2) (cwV 2 hts gL_law_X6_used rfl rfl rfl hv_X6_used ⟨Nat.le_of_ble_eq_true rfl, Nat.le_of_ble_eq_true rfl⟩) (w_recv X.1 hI (wC g ad cs').length wM_ob rfl) rfl hl.1 rfl (Nat.le_of_ble_eq_true rfl) dL_law_1067 (fun H locs hI => ?_)
    have hI : IW g (fun q => s.heap.size ≤ q) s.heap (wCX g (wM g am ms') ad cs') H locs := hI
    exact lv_icmp_eq (tgt := 1453) hx hb dL_law_1070 (by decide) (fun _ => kk H locs ls hI hl) (fun cz => absurd rfl cz)
set_option maxHeartbeats 4000000 in
set_option maxRecDepth 100000 in
theorem lc_27 {p : Program} {l : Launch} {e : Env} {s : State} {m : MethodId} {below : List Frame} {meth : Method} {c : Code} {H : Heap} {locs : List Loc} {b L i : Nat} {xs : Nat → Int32} {ls : Array Slot} {g : GP} {ad am : Nat → Nat} (N : Nat) {cs cs' ms ms' : St} {r : Int32} (X : LCx p s m c b L xs g) (hI : IW g (fun q => s.heap.size ≤ q) s.heap (wCX g (wM g am ms) ad cs) H locs) (hl : lv_has ls 4 [(0, .ref b), (1, .ref (ad 0)), (2, .ref (am 0)), (3, .int (nI i))]) (hi : i + 5 < L) (h1 : f_X5_family N cs (xs (i + 1)) (xs (i + 2)) = some (r, cs')) (h2 : f_X6_family N ms (xs (i + 1)) (xs (i + 2)) = some (r, ms'))
    (kk : ∀ (H : Heap) (locs : List Loc) (ls : Array Slot), IW g (fun q => s.heap.size ≤ q) s.heap (wCX g (wM g am ms') ad cs') H locs → lv_has ls 4 [(0, .ref b), (1, .ref (ad 0)), (2, .ref (am 0)), (3, .int (nI i))] → WL p l e s m b below meth c H locs (F0 m 1453 ls [])) : WL p l e s m b below meth c H locs (F0 m 1075 ls []) := by
  obtain ⟨hx, hb, hml, hown, hts⟩ := id X.1.1
  refine lv_aload_n hx hb dL_law_1075 rfl (lv_at hl 1 rfl) ?_
  refine lv_aload_n hx hb dL_law_1076 rfl (lv_at hl 0 rfl) ?_
  refine lv_iload_n hx hb dL_law_1077 rfl (lv_at hl 3 rfl) ?_
  refine lv_iconst (v := 1) hx hb dL_law_1078 (by decide) ?_
  refine lv_iadd hx hb dL_law_1079 ?_
  refine l_ld (i := i) (j := 1) X hI (by omega) (nI_add i 1) dL_law_1080 ?_
  refine lv_aload_n hx hb dL_law_1081 rfl (lv_at hl 0 rfl) ?_
  refine lv_iload_n hx hb dL_law_1082 rfl (lv_at hl 3 rfl) ?_
  refine lv_iconst (v := 2) hx hb dL_law_1083 (by decide) ?_
  refine lv_iadd hx hb dL_law_1084 ?_
  refine l_ld (i := i) (j := 2) X hI (by omega) (nI_add i 2) dL_law_1085 ?_
  refine l_I (rest := []) X hI (c_X5_family l g (wM g am ms) ad N (xs (i + 1)) (xs (i + 2)) cs h1) (cwV 2 hts gL_law_X5_family rfl rfl rfl hv_X5_family ⟨Nat.le_of_ble_eq_true rfl, Nat.le_of_ble_eq_true rfl⟩) (w_recv X.1 hI 0 at_C rfl) rfl hl.1 rfl (Nat.le_of_ble_eq_true rfl) dL_law_1086 (fun H locs hI => ?_)
  refine lv_aload_n hx hb dL_law_1089 rfl (lv_at hl 2 rfl) ?_
  refine lv_aload_n hx hb dL_law_1090 rfl (lv_at hl 0 rfl) ?_
  refine lv_iload_n hx hb dL_law_1091 rfl (lv_at hl 3 rfl) ?_
  refine lv_iconst (v := 1) hx hb dL_law_1092 (by decide) ?_
  refine lv_iadd hx hb dL_law_1093 ?_
  refine l_ld (i := i) (j := 1) X hI (by omega) (nI_add i 1) dL_law_1094 ?_
  refine lv_aload_n hx hb dL_law_1095 rfl (lv_at hl 0 rfl) ?_
  refine lv_iload_n hx hb dL_law_1096 rfl (lv_at hl 3 rfl) ?_
  refine lv_iconst (v := 2) hx hb dL_law_1097 (by decide) ?_
  refine lv_iadd hx hb dL_law_1098 ?_
  refine l_ld (i := i) (j := 2) X hI (by omega) (nI_add i 2) dL_law_1099 ?_
  have hI : IW g (fun q => s.heap.size ≤ q) s.heap (wMX g (wC g ad cs') am ms) H locs := hI
  refine l_I (rest := [.int r]) X hI (c_X6_family l g (wC g ad cs') am N (xs (i + 1)) (xs (i + 2)) ms h2) (cwV 2 hts gL_law_X6_family rfl rfl rfl hv_X6_family ⟨Nat.le_of_ble_eq_true rfl, Nat.le_of_ble_eq_true rfl⟩) (w_recv X.1 hI (wC g ad cs').length wM_ob rfl) rfl hl.1 rfl (Nat.le_of_ble_eq_true rfl) dL_law_1100 (fun H locs hI => ?_)
  have hI : IW g (fun q => s.heap.size ≤ q) s.heap (wCX g (wM g am ms') ad cs') H locs := hI
  exact lv_icmp_eq (tgt := 1453) hx hb dL_law_1103 (by decide) (fun _ => kk H locs ls hI hl) (fun cz => absurd rfl cz)
set_option maxHeartbeats 4000000 in
set_option maxRecDepth 100000 in
theorem lc_28 {p : Program} {l : Launch} {e : Env} {s : State} {m : MethodId} {below : List Frame} {meth : Method} {c : Code} {H : Heap} {locs : List Loc} {b L i : Nat} {xs : Nat → Int32} {ls : Array Slot} {g : GP} {ad am : Nat → Nat} (N : Nat) {cs cs' ms ms' : St} {r : Int32} (X : LCx p s m c b L xs g) (hI : IW g (fun q => s.heap.size ≤ q) s.heap (wCX g (wM g am ms) ad cs) H locs) (hl : lv_has ls 4 [(0, .ref b), (1, .ref (ad 0)), (2, .ref (am 0)), (3, .int (nI i))]) (hi : i + 5 < L) (h1 : f_X5_families N cs (xs (i + 1)) = some (r, cs')) (h2 : f_X6_families N ms (xs (i + 1)) = some (r, ms'))
    (kk : ∀ (H : Heap) (locs : List Loc) (ls : Array Slot), IW g (fun q => s.heap.size ≤ q) s.heap (wCX g (wM g am ms') ad cs') H locs → lv_has ls 4 [(0, .ref b), (1, .ref (ad 0)), (2, .ref (am 0)), (3, .int (nI i))] → WL p l e s m b below meth c H locs (F0 m 1453 ls [])) : WL p l e s m b below meth c H locs (F0 m 1108 ls []) := by
  obtain ⟨hx, hb, hml, hown, hts⟩ := id X.1.1
  refine lv_aload_n hx hb dL_law_1108 rfl (lv_at hl 1 rfl) ?_
  refine lv_aload_n hx hb dL_law_1109 rfl (lv_at hl 0 rfl) ?_
  refine lv_iload_n hx hb dL_law_1110 rfl (lv_at hl 3 rfl) ?_
  refine lv_iconst (v := 1) hx hb dL_law_1111 (by decide) ?_
  refine lv_iadd hx hb dL_law_1112 ?_
  refine l_ld (i := i) (j := 1) X hI (by omega) (nI_add i 1) dL_law_1113 ?_
  refine l_I (rest := []) X hI (c_X5_families l g (wM g am ms) ad N (xs (i + 1)) cs h1) (cwV 1 hts gL_law_X5_families rfl rfl rfl hv_X5_families ⟨Nat.le_of_ble_eq_true rfl, Nat.le_of_ble_eq_true rfl⟩) (w_recv X.1 hI 0 at_C rfl) rfl hl.1 rfl (Nat.le_of_ble_eq_true rfl) dL_law_1114 (fun H locs hI => ?_)
  refine lv_aload_n hx hb dL_law_1117 rfl (lv_at hl 2 rfl) ?_
  refine lv_aload_n hx hb dL_law_1118 rfl (lv_at hl 0 rfl) ?_
  refine lv_iload_n hx hb dL_law_1119 rfl (lv_at hl 3 rfl) ?_
  refine lv_iconst (v := 1) hx hb dL_law_1120 (by decide) ?_
  refine lv_iadd hx hb dL_law_1121 ?_
  refine l_ld (i := i) (j := 1) X hI (by omega) (nI_add i 1) dL_law_1122 ?_
  have hI : IW g (fun q => s.heap.size ≤ q) s.heap (wMX g (wC g ad cs') am ms) H locs := hI
  refine l_I (rest := [.int r]) X hI (c_X6_families l g (wC g ad cs') am N (xs (i + 1)) ms h2) (cwV 1 hts gL_law_X6_families rfl rfl rfl hv_X6_families ⟨Nat.le_of_ble_eq_true rfl, Nat.le_of_ble_eq_true rfl⟩) (w_recv X.1 hI (wC g ad cs').length wM_ob rfl) rfl hl.1 rfl (Nat.le_of_ble_eq_true rfl) dL_law_1123 (fun H locs hI => ?_)
  have hI : IW g (fun q => s.heap.size ≤ q) s.heap (wCX g (wM g am ms') ad cs') H locs := hI
  exact lv_icmp_eq (tgt := 1453) hx hb dL_law_1126 (by decide) (fun _ => kk H locs ls hI hl) (fun cz => absurd rfl cz)
set_option maxHeartbeats 4000000 in
set_option maxRecDepth 100000 in
theorem lc_29 {p : Program} {l : Launch} {e : Env} {s : State} {m : MethodId} {below : List Frame} {meth : Method} {c : Code} {H : Heap} {locs : List Loc} {b L i : Nat} {xs : Nat → Int32} {ls : Array Slot} {g : GP} {ad am : Nat → Nat} (N : Nat) {cs cs' ms ms' : St} {r : Int32} (X : LCx p s m c b L xs g) (hI : IW g (fun q => s.heap.size ≤ q) s.heap (wCX g (wM g am ms) ad cs) H locs) (hl : lv_has ls 4 [(0, .ref b), (1, .ref (ad 0)), (2, .ref (am 0)), (3, .int (nI i))]) (hi : i + 5 < L) (h1 : f_X5_like N cs (xs (i + 1)) (xs (i + 2)) (bz (xs (i + 3))) = some (r, cs')) (h2 : f_X6_like N ms (xs (i + 1)) (xs (i + 2)) (bz (xs (i + 3))) = some (r, ms'))
    (kk : ∀ (H : Heap) (locs : List Loc) (ls : Array Slot), IW g (fun q => s.heap.size ≤ q) s.heap (wCX g (wM g am ms') ad cs') H locs → lv_has ls 4 [(0, .ref b), (1, .ref (ad 0)), (2, .ref (am 0)), (3, .int (nI i))] → WL p l e s m b below meth c H locs (F0 m 1453 ls [])) : WL p l e s m b below meth c H locs (F0 m 1131 ls []) := by
  obtain ⟨hx, hb, hml, hown, hts⟩ := id X.1.1
  by_cases cb3 : xs (i + 3) = 0
  · rw [bz_0 cb3] at h1 h2
    refine lv_aload_n hx hb dL_law_1131 rfl (lv_at hl 1 rfl) ?_
    refine lv_aload_n hx hb dL_law_1132 rfl (lv_at hl 0 rfl) ?_
    refine lv_iload_n hx hb dL_law_1133 rfl (lv_at hl 3 rfl) ?_
    refine lv_iconst (v := 1) hx hb dL_law_1134 (by decide) ?_
    refine lv_iadd hx hb dL_law_1135 ?_
    refine l_ld (i := i) (j := 1) X hI (by omega) (nI_add i 1) dL_law_1136 ?_
    refine lv_aload_n hx hb dL_law_1137 rfl (lv_at hl 0 rfl) ?_
    refine lv_iload_n hx hb dL_law_1138 rfl (lv_at hl 3 rfl) ?_
    refine lv_iconst (v := 2) hx hb dL_law_1139 (by decide) ?_
    refine lv_iadd hx hb dL_law_1140 ?_
    refine l_ld (i := i) (j := 2) X hI (by omega) (nI_add i 2) dL_law_1141 ?_
    refine lv_aload_n hx hb dL_law_1142 rfl (lv_at hl 0 rfl) ?_
    refine lv_iload_n hx hb dL_law_1143 rfl (lv_at hl 3 rfl) ?_
    refine lv_iconst (v := 3) hx hb dL_law_1144 (by decide) ?_
    refine lv_iadd hx hb dL_law_1145 ?_
    refine l_ld (i := i) (j := 3) X hI (by omega) (nI_add i 3) dL_law_1146 ?_
    refine lv_if_eq (tgt := 1154) hx hb dL_law_1147 (by decide) (fun _ => ?_) (fun cz => absurd cb3 cz)
    refine lv_iconst (v := 0) hx hb dL_law_1154 (by decide) ?_
    refine l_I (rest := []) X hI (c_X5_like l g (wM g am ms) ad N (xs (i + 1)) (xs (i + 2)) false cs h1) (cwV 3 hts gL_law_X5_like rfl rfl rfl hv_X5_like ⟨Nat.le_of_ble_eq_true rfl, Nat.le_of_ble_eq_true rfl⟩) (w_recv X.1 hI 0 at_C rfl) rfl hl.1 rfl (Nat.le_of_ble_eq_true rfl) dL_law_1155 (fun H locs hI => ?_)
    refine lv_aload_n hx hb dL_law_1158 rfl (lv_at hl 2 rfl) ?_
    refine lv_aload_n hx hb dL_law_1159 rfl (lv_at hl 0 rfl) ?_
    refine lv_iload_n hx hb dL_law_1160 rfl (lv_at hl 3 rfl) ?_
    refine lv_iconst (v := 1) hx hb dL_law_1161 (by decide) ?_
    refine lv_iadd hx hb dL_law_1162 ?_
    refine l_ld (i := i) (j := 1) X hI (by omega) (nI_add i 1) dL_law_1163 ?_
    refine lv_aload_n hx hb dL_law_1164 rfl (lv_at hl 0 rfl) ?_
    refine lv_iload_n hx hb dL_law_1165 rfl (lv_at hl 3 rfl) ?_
    refine lv_iconst (v := 2) hx hb dL_law_1166 (by decide) ?_
    refine lv_iadd hx hb dL_law_1167 ?_
    refine l_ld (i := i) (j := 2) X hI (by omega) (nI_add i 2) dL_law_1168 ?_
    refine lv_aload_n hx hb dL_law_1169 rfl (lv_at hl 0 rfl) ?_
    refine lv_iload_n hx hb dL_law_1170 rfl (lv_at hl 3 rfl) ?_
    refine lv_iconst (v := 3) hx hb dL_law_1171 (by decide) ?_
    refine lv_iadd hx hb dL_law_1172 ?_
    refine l_ld (i := i) (j := 3) X hI (by omega) (nI_add i 3) dL_law_1173 ?_
    refine lv_if_eq (tgt := 1181) hx hb dL_law_1174 (by decide) (fun _ => ?_) (fun cz => absurd cb3 cz)
    refine lv_iconst (v := 0) hx hb dL_law_1181 (by decide) ?_
    have hI : IW g (fun q => s.heap.size ≤ q) s.heap (wMX g (wC g ad cs') am ms) H locs := hI
    refine l_I (rest := [.int r]) X hI (c_X6_like l g (wC g ad cs') am N (xs (i + 1)) (xs (i + 2)) false ms h2) (cwV 3 hts gL_law_X6_like rfl rfl rfl hv_X6_like ⟨Nat.le_of_ble_eq_true rfl, Nat.le_of_ble_eq_true rfl⟩) (w_recv X.1 hI (wC g ad cs').length wM_ob rfl) rfl hl.1 rfl (Nat.le_of_ble_eq_true rfl) dL_law_1182 (fun H locs hI => ?_)
    have hI : IW g (fun q => s.heap.size ≤ q) s.heap (wCX g (wM g am ms') ad cs') H locs := hI
    exact lv_icmp_eq (tgt := 1453) hx hb dL_law_1185 (by decide) (fun _ => kk H locs ls hI hl) (fun cz => absurd rfl cz)
  · rw [bz_1 cb3] at h1 h2
    refine lv_aload_n hx hb dL_law_1131 rfl (lv_at hl 1 rfl) ?_
    refine lv_aload_n hx hb dL_law_1132 rfl (lv_at hl 0 rfl) ?_
    refine lv_iload_n hx hb dL_law_1133 rfl (lv_at hl 3 rfl) ?_
    refine lv_iconst (v := 1) hx hb dL_law_1134 (by decide) ?_
    refine lv_iadd hx hb dL_law_1135 ?_
    refine l_ld (i := i) (j := 1) X hI (by omega) (nI_add i 1) dL_law_1136 ?_
    refine lv_aload_n hx hb dL_law_1137 rfl (lv_at hl 0 rfl) ?_
    refine lv_iload_n hx hb dL_law_1138 rfl (lv_at hl 3 rfl) ?_
    refine lv_iconst (v := 2) hx hb dL_law_1139 (by decide) ?_
    refine lv_iadd hx hb dL_law_1140 ?_
    refine l_ld (i := i) (j := 2) X hI (by omega) (nI_add i 2) dL_law_1141 ?_
    refine lv_aload_n hx hb dL_law_1142 rfl (lv_at hl 0 rfl) ?_
    refine lv_iload_n hx hb dL_law_1143 rfl (lv_at hl 3 rfl) ?_
    refine lv_iconst (v := 3) hx hb dL_law_1144 (by decide) ?_
    refine lv_iadd hx hb dL_law_1145 ?_
    refine l_ld (i := i) (j := 3) X hI (by omega) (nI_add i 3) dL_law_1146 ?_
    refine lv_if_eq (tgt := 1154) hx hb dL_law_1147 (by decide) (fun cz => absurd cz cb3) (fun _ => ?_)
    refine lv_iconst (v := 1) hx hb dL_law_1150 (by decide) ?_
    refine lv_goto (tgt := 1155) hx hb dL_law_1151 (by decide) ?_
    refine l_I (rest := []) X hI (c_X5_like l g (wM g am ms) ad N (xs (i + 1)) (xs (i + 2)) true cs h1) (cwV 3 hts gL_law_X5_like rfl rfl rfl hv_X5_like ⟨Nat.le_of_ble_eq_true rfl, Nat.le_of_ble_eq_true rfl⟩) (w_recv X.1 hI 0 at_C rfl) rfl hl.1 rfl (Nat.le_of_ble_eq_true rfl) dL_law_1155 (fun H locs hI => ?_)
    refine lv_aload_n hx hb dL_law_1158 rfl (lv_at hl 2 rfl) ?_
    refine lv_aload_n hx hb dL_law_1159 rfl (lv_at hl 0 rfl) ?_
    refine lv_iload_n hx hb dL_law_1160 rfl (lv_at hl 3 rfl) ?_
    refine lv_iconst (v := 1) hx hb dL_law_1161 (by decide) ?_
    refine lv_iadd hx hb dL_law_1162 ?_
    refine l_ld (i := i) (j := 1) X hI (by omega) (nI_add i 1) dL_law_1163 ?_
    refine lv_aload_n hx hb dL_law_1164 rfl (lv_at hl 0 rfl) ?_
    refine lv_iload_n hx hb dL_law_1165 rfl (lv_at hl 3 rfl) ?_
    refine lv_iconst (v := 2) hx hb dL_law_1166 (by decide) ?_
    refine lv_iadd hx hb dL_law_1167 ?_
    refine l_ld (i := i) (j := 2) X hI (by omega) (nI_add i 2) dL_law_1168 ?_
    refine lv_aload_n hx hb dL_law_1169 rfl (lv_at hl 0 rfl) ?_
    refine lv_iload_n hx hb dL_law_1170 rfl (lv_at hl 3 rfl) ?_
    refine lv_iconst (v := 3) hx hb dL_law_1171 (by decide) ?_
    refine lv_iadd hx hb dL_law_1172 ?_
    refine l_ld (i := i) (j := 3) X hI (by omega) (nI_add i 3) dL_law_1173 ?_
    refine lv_if_eq (tgt := 1181) hx hb dL_law_1174 (by decide) (fun cz => absurd cz cb3) (fun _ => ?_)
    refine lv_iconst (v := 1) hx hb dL_law_1177 (by decide) ?_
    refine lv_goto (tgt := 1182) hx hb dL_law_1178 (by decide) ?_
    have hI : IW g (fun q => s.heap.size ≤ q) s.heap (wMX g (wC g ad cs') am ms) H locs := hI
    refine l_I (rest := [.int r]) X hI (c_X6_like l g (wC g ad cs') am N (xs (i + 1)) (xs (i + 2)) true ms h2) (cwV 3 hts gL_law_X6_like rfl rfl rfl hv_X6_like ⟨Nat.le_of_ble_eq_true rfl, Nat.le_of_ble_eq_true rfl⟩) (w_recv X.1 hI (wC g ad cs').length wM_ob rfl) rfl hl.1 rfl (Nat.le_of_ble_eq_true rfl) dL_law_1182 (fun H locs hI => ?_)
    have hI : IW g (fun q => s.heap.size ≤ q) s.heap (wCX g (wM g am ms') ad cs') H locs := hI
    exact lv_icmp_eq (tgt := 1453) hx hb dL_law_1185 (by decide) (fun _ => kk H locs ls hI hl) (fun cz => absurd rfl cz)
