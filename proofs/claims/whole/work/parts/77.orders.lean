/-! the calls that ask for the order -/
theorem both_s {cs ms : St} {N n w mask : Nat} (hN : 200000000 ≤ N) (hR : Rel SO cs ms) (hO : GO n w (ms 0)) (h1 : 1 ≤ n) (h8 : n ≤ 8) : ∃ cs' ms', f_X3_solve N cs (nI mask) = some cs' ∧ f_X6_search N ms (nI mask) = some ms' ∧ Rel SO cs' ms' ∧ GR cs' 0 (ms' 0) ∧ GO n w (ms' 0) ∧ SOK cs' n ∧ (∀ i, i < n → dG cs' i = tkG (ms 0) mask i ∧ dL cs' i = tkL (ms 0) mask i ∧ dC cs' i = cN (ms 0) i) ∧ ms' 0 = ms 0 ∧ ms' 10 2 = cs' 44 0 ∧ ms' 10 3 = cs' 45 0 ∧ (∀ j, j < n → ms' 6 j = cs' 46 j) ∧ (∀ j, j < n → tn (cs' 46 j) < n) := by
  obtain ⟨cs', z1, z2, z3, z4, z5⟩ := solve_c (mask := mask) (N := N) hR.1 hO (by omega) h1 h8 hR.2.2.2.2.2
  obtain ⟨ms', y1, y2, y3, y4, y5, y6, y7, y8, -⟩ := search_m (mask := mask) (N := N) hO h1 h8 hN z4 z5
  have hR' : Rel SO cs' ms' := hR.scratch (fun c h12 h40 => z2 c (by omega)) z3 (fun c hc => y2 c (by omega)) ⟨y3, y4⟩
  exact ⟨cs', ms', z1, y1, hR', hR'.1, by rw [y2 0 (by omega)]; exact hO, z4, z5, y2 0 (by omega), y5, y6, y7, y8⟩
theorem hind_c {cs ms : St} {n w : Nat} (hG : GR cs 0 (ms 0)) (hO : GO n w (ms 0)) : f_X5_orderHindrance cs = f_X6_noOrder ms := by
  unfold f_X5_orderHindrance f_X6_noOrder
  rw [hG.1]
theorem hind_0 {ms : St} {n w : Nat} (hO : GO n w (ms 0)) : (f_X6_noOrder ms = 0 ∧ 1 ≤ n ∧ n ≤ 8) ∨ ¬ f_X6_noOrder ms = 0 := by
  have hn := hO.1
  unfold f_X6_noOrder
  rw [hO.2.2.1]
  by_cases h0 : n = 0
  · subst h0
    right
    rw [if_pos (show nI 0 = (0 : Int32) from rfl)]
    decide
  · rw [if_neg (show ¬ nI n = (0 : Int32) from nI_ne0 (by omega) (by omega))]
    by_cases h8 : n ≤ 8
    · left
      rw [if_pos (show nI n ≤ (8 : Int32) from nI_le (b := 8) h8 (by omega))]
      exact ⟨rfl, by omega, h8⟩
    · right
      rw [if_neg (show ¬ nI n ≤ (8 : Int32) from nI_ge (a := 8) (by omega) (by omega))]
      decide
theorem s_order {N : Nat} (hN : 200000000 ≤ N) : ∀ cs ms, Rel SO cs ms → StepI (Rel SO) (f_X5_order N cs) (f_X6_order N ms) := by
  intro cs ms hR
  obtain ⟨hG, ⟨n, w, hO⟩, -⟩ := id hR
  unfold f_X5_order f_X6_order
  simp only [bnd_s]
  rw [hind_c hG hO]
  rcases hind_0 hO with ⟨h, h1, h8⟩ | h
  · rw [if_pos h, if_pos h]
    obtain ⟨cs', ms', z1, z2, z3, -, -, -, -, -, z4, -⟩ := both_s (mask := 4095) hN hR hO h1 h8
    rw [show f_X3_solve N cs 4095 = some cs' from z1, show f_X6_search N ms 4095 = some ms' from z2, bd1_s, bd1_s, z4]
    exact ⟨_, _, _, rfl, rfl, z3⟩
  · rw [if_neg h, if_neg h]
    exact fin_step SO_ok hR _
theorem s_ways {N : Nat} (hN : 200000000 ≤ N) : ∀ cs ms, Rel SO cs ms → StepI (Rel SO) (f_X5_ways N cs) (f_X6_ways N ms) := by
  intro cs ms hR
  obtain ⟨hG, ⟨n, w, hO⟩, -⟩ := id hR
  unfold f_X5_ways f_X6_ways
  simp only [bnd_s]
  rw [hind_c hG hO]
  rcases hind_0 hO with ⟨h, h1, h8⟩ | h
  · rw [if_pos h, if_pos h]
    obtain ⟨cs', ms', z1, z2, z3, -, -, -, -, -, -, z4, -⟩ := both_s (mask := 4095) hN hR hO h1 h8
    rw [show f_X3_solve N cs 4095 = some cs' from z1, show f_X6_search N ms 4095 = some ms' from z2, bd1_s, bd1_s, z4]
    exact ⟨_, _, _, rfl, rfl, z3⟩
  · rw [if_neg h, if_neg h]
    exact fin_step SO_ok hR _
theorem s_without {N : Nat} (hN : 200000000 ≤ N) : ∀ cs ms, Rel SO cs ms → ∀ (a1 : Int32), StepI (Rel SO) (f_X5_without N cs a1) (f_X6_without N ms a1) := by
  intro cs ms hR a1
  obtain ⟨hG, ⟨n, w, hO⟩, -⟩ := id hR
  unfold f_X5_without f_X6_without
  simp only [bnd_s, isGood_w]
  rcases isGood_cases a1 with g1 | ⟨g1, x, hx, rfl⟩
  · rw [g1]; simp only [b2i_f, if_true]; exact fin_step SO_ok hR _
  · rw [g1]; simp only [b2i_t, if_false]
    rw [hind_c hG hO]
    rcases hind_0 hO with ⟨h, h1, h8⟩ | h
    · rw [if_pos h, if_pos h, nI_bit (by omega), show (4095 : Int32) &&& (nI (2 ^ x) ^^^ (-1 : Int32)) = nI (4095 &&& (4095 ^^^ (4095 &&& 2 ^ x))) from nI_andnot 4095 _]
      obtain ⟨cs', ms', z1, z2, z3, -, -, -, -, -, z4, -⟩ := both_s (mask := 4095 &&& (4095 ^^^ (4095 &&& 2 ^ x))) hN hR hO h1 h8
      rw [z1, z2, bd1_s, bd1_s, z4]
      exact ⟨_, _, _, rfl, rfl, z3⟩
    · rw [if_neg h, if_neg h]
      exact fin_step SO_ok hR _
