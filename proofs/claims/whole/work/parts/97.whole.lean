/-! the law, whole -/
theorem rel0 : Rel SO cs0 ms0 := by
  have c0 : ∀ c j, ¬ (c = 9 ∨ c = 10 ∨ c = 25 ∨ c = 26) → cs0 c j = 0 := fun c j h => by unfold cs0; exact if_neg h
  have c1 : ∀ c j, (c = 9 ∨ c = 10 ∨ c = 25 ∨ c = 26) → cs0 c j = 10 := fun c j h => by unfold cs0; exact if_pos h
  have m0 : ∀ c j, ¬ c = 0 → ms0 c j = 0 := fun c j h => by unfold ms0; exact if_neg h
  have m1 : ∀ j, ¬ (92 ≤ j ∧ j < 104) → ms0 0 j = 0 := fun j h => by unfold ms0; exact (if_pos rfl).trans (if_neg h)
  have m2 : ∀ j, 92 ≤ j → j < 104 → ms0 0 j = 10 := fun j h1 h2 => by unfold ms0; exact (if_pos rfl).trans (if_pos ⟨h1, h2⟩)
  refine ⟨⟨?_, ?_, fun f k hf hk => ?_, fun k hk => ?_, fun k hk => ?_, fun k hk => ?_⟩, ⟨0, 0, by omega, by omega, ?_, ?_, fun f k _ hk => by omega, fun _ => 0, fun i j hi => by omega⟩, ⟨?_, ?_⟩, fun h => absurd (m0 10 0 (by omega)) h, fun q hq => ⟨?_, ?_, fun i hi => ?_, Or.inl (m0 2 q (by omega)), 0, by omega, ?_⟩, ?_, fun h => absurd (c0 47 0 (by omega)) h⟩
  · rw [c0 _ _ (by omega), m1 0 (by omega)]
  · rw [c0 _ _ (by omega), m1 1 (by omega)]
  · rw [c0 _ _ (by omega), m1 _ (by omega)]
  · rw [c1 _ _ (by omega), m2 _ (by omega) (by omega)]
  · rw [c1 _ _ (by omega), m2 _ (by omega) (by omega)]
  · rw [c0 _ _ (by omega), m1 _ (by omega)]
  · rw [m1 0 (by omega)]; rfl
  · rw [m1 1 (by omega)]; rfl
  · rw [c0 _ _ (by omega), m0 _ _ (by omega)]
  · rw [c0 _ _ (by omega), m0 _ _ (by omega)]
  · rw [c0 _ _ (by omega), m0 _ _ (by omega)]
  · rw [c0 _ _ (by omega), m0 _ _ (by omega)]
  · rw [c0 _ _ (by omega), m0 _ _ (by omega)]
  · rw [m0 _ _ (by omega)]; rfl
  · exact c0 43 0 (by omega)
theorem whole_start {p : Program} {e : Env} {s : State} {m : MethodId} {below : List Frame} {meth : Method} {c : Code} (l : Launch) {b L : Nat} {xs : Nat → Int32} (hL : L ≤ 3072) (C0 : lw_At p s m meth c b L xs) : W p l e room_1 s m #[Value.ref b] below meth c s.heap [] 0 0 (lw_Z below #[Value.ref b] s) (entryFrame m ([Value.ref b] : List Value).toArray 4) := by
  obtain ⟨N, hN⟩ : ∃ N : Nat, 200000000 ≤ N := ⟨200000000, Nat.le_refl _⟩
  obtain ⟨-, -, hr, -, -, -, -, -, hlocks, -⟩ := id C0
  refine law_start l hL C0 (fun g ad am H locs ls X hI hl => ?_)
  exact law_loop N (Rel SO) (s_grave SO_ok) (s_as SO_ok (by omega)) (s_goods SO_ok) (s_of SO_ok (by omega)) (s_span SO_ok) (s_coin SO_ok (by omega)) (s_cut SO_ok (by omega)) (s_later SO_ok (by omega)) (s_fill SO_ok (by omega)) (s_sheet SO_ok (by omega)) (s_put SO_ok) (s_copy SO_ok (by omega)) (s_read SO_ok (by omega)) (s_order hN) (s_at hN) (s_holes hN) (s_good hN) (s_tell SO_ok) (s_check SO_ok (by omega)) (s_without hN) (s_ways hN) (s_stretches hN) (s_border hN) (s_year SO_ok (by omega)) (s_wrong SO_ok (by omega)) (s_in SO_ok (by omega)) (s_used SO_ok (by omega)) (s_family SO_ok (by omega)) (s_families SO_ok (by omega)) (s_like SO_ok (by omega)) (s_nearest SO_ok (by omega)) (s_mark SO_ok) (s_weigh SO_ok) (s_share SO_ok (by omega)) (s_people SO_ok (by omega)) (s_keep SO_ok (by omega)) (s_back SO_ok (by omega)) (s_told SO_ok (by omega)) X hr hlocks (L + 1) 0 cs0 ms0 H locs ls (Nat.zero_le L) (by omega) rel0 hI hl
