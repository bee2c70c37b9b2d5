/-! at -/
theorem s_at {N : Nat} (hN : 200000000 ≤ N) : ∀ cs ms, Rel SO cs ms → ∀ (a1 : Int32), StepI (Rel SO) (f_X5_at N cs a1) (f_X6_at N ms a1) := by
  intro cs ms hR a1
  obtain ⟨hG, ⟨n, w, hO⟩, -⟩ := id hR
  have hn := hO.1
  have e0 : ms 0 0 = nI n := hO.2.2.1
  have e1 : cs 13 0 = nI n := hG.1.trans e0
  unfold f_X5_at f_X6_at
  simp only [bnd_s]
  rw [hind_c hG hO]
  rcases hind_0 hO with ⟨h, h1, h8⟩ | h
  · rw [if_pos h, if_pos h, e0, e1]
    by_cases q : a1 < 0
    · rw [if_pos q, w_f1 q]; simp only [b2i_f, if_true]; exact fin_step SO_ok hR _
    · rw [if_neg q]
      obtain ⟨k, hk, rfl⟩ := nn_nI q
      obtain ⟨m, rfl⟩ : ∃ m, n = m + 1 := ⟨n - 1, by omega⟩
      rw [nI_pred]
      by_cases q2 : k < m + 1
      · rw [if_pos (nI_lt q2 (by omega)), w_t q (nI_le (show k ≤ m by omega) (by omega))]
        simp only [b2i_t, if_false]
        obtain ⟨cs', ms', z1, z2, z3, -, -, -, -, -, -, -, z4, -⟩ := both_s (mask := 4095) hN hR hO h1 h8
        rw [show f_X3_solve N cs 4095 = some cs' from z1, show f_X6_search N ms 4095 = some ms' from z2, bd1_s, bd1_s, ck_nI (by omega) (by omega), ck_nI (by omega) (by omega), z4 k q2]
        exact ⟨_, _, _, rfl, rfl, z3⟩
      · rw [if_neg (show ¬ nI k < nI (m + 1) from fun z => by rw [i32_lt, nI_toInt hk, nI_toInt (by omega)] at z; omega), w_f2 q (nI_ge (show m < k by omega) hk)]
        simp only [b2i_f, if_true]; exact fin_step SO_ok hR _
  · rw [if_neg h, if_neg h]
    exact fin_step SO_ok hR _
