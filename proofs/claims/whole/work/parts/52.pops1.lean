/-! calls that change a grave's numbers -/
theorem gr_set {cs : St} {a : Nat → Int32} {f0 k0 : Nat} {v : Int32} (h : GR cs 0 a) (hf : f0 < 9) (hk : k0 < 10) : GR (sU cs f0 k0 v) 0 (upd a (2 + 10 * f0 + k0) v) := by
  obtain ⟨h1, h2, h3, h4, h5, h6⟩ := h
  have ne : ∀ c, ¬ c = f0 → sU cs f0 k0 v c = cs c := fun c hc => sU_ne _ _ _ hc
  refine ⟨?_, ?_, fun f k hf' hk' => ?_, fun k hk' => ?_, fun k hk' => ?_, fun k hk' => ?_⟩
  · rw [ne _ (by omega), upd_ne _ _ (by omega)]; exact h1
  · rw [ne _ (by omega), upd_ne _ _ (by omega)]; exact h2
  · by_cases hff : f = f0
    · subst hff
      rw [Nat.zero_add, sU_eq]
      by_cases hkk : k = k0
      · subst hkk; rw [upd_eq, upd_eq]
      · rw [upd_ne _ _ hkk, upd_ne _ _ (by omega)]
        have := h3 f k hf' hk'; rwa [Nat.zero_add] at this
    · rw [ne _ (by omega), upd_ne _ _ (by omega)]; exact h3 f k hf' hk'
  · rw [ne _ (by omega), upd_ne _ _ (by omega)]; exact h4 k hk'
  · rw [ne _ (by omega), upd_ne _ _ (by omega)]; exact h5 k hk'
  · rw [ne _ (by omega), upd_ne _ _ (by omega)]; exact h6 k hk'
theorem gr_size {cs : St} {a : Nat → Int32} {v : Int32} (h : GR cs 0 a) : GR (sU cs 13 0 v) 0 (upd a 0 v) := by
  obtain ⟨h1, h2, h3, h4, h5, h6⟩ := h
  have ne : ∀ c, ¬ c = 13 → sU cs 13 0 v c = cs c := fun c hc => sU_ne _ _ _ hc
  refine ⟨?_, ?_, fun f k hf' hk' => ?_, fun k hk' => ?_, fun k hk' => ?_, fun k hk' => ?_⟩
  · show sU cs 13 0 v 13 0 = _
    rw [sU_eq, upd_eq, upd_eq]
  · show sU cs 13 0 v 13 1 = _
    rw [sU_eq, upd_ne _ _ (by omega), upd_ne _ _ (by omega)]; exact h2
  · rw [ne _ (by omega), upd_ne _ _ (by omega)]; exact h3 f k hf' hk'
  · rw [ne _ (by omega), upd_ne _ _ (by omega)]; exact h4 k hk'
  · rw [ne _ (by omega), upd_ne _ _ (by omega)]; exact h5 k hk'
  · rw [ne _ (by omega), upd_ne _ _ (by omega)]; exact h6 k hk'
theorem gr_waits {cs : St} {a : Nat → Int32} {v : Int32} (h : GR cs 0 a) : GR (sU cs 13 1 v) 0 (upd a 1 v) := by
  obtain ⟨h1, h2, h3, h4, h5, h6⟩ := h
  have ne : ∀ c, ¬ c = 13 → sU cs 13 1 v c = cs c := fun c hc => sU_ne _ _ _ hc
  refine ⟨?_, ?_, fun f k hf' hk' => ?_, fun k hk' => ?_, fun k hk' => ?_, fun k hk' => ?_⟩
  · show sU cs 13 1 v 13 0 = _
    rw [sU_eq, upd_ne _ _ (by omega), upd_ne _ _ (by omega)]; exact h1
  · show sU cs 13 1 v 13 1 = _
    rw [sU_eq, upd_eq, upd_eq]
  · rw [ne _ (by omega), upd_ne _ _ (by omega)]; exact h3 f k hf' hk'
  · rw [ne _ (by omega), upd_ne _ _ (by omega)]; exact h4 k hk'
  · rw [ne _ (by omega), upd_ne _ _ (by omega)]; exact h5 k hk'
  · rw [ne _ (by omega), upd_ne _ _ (by omega)]; exact h6 k hk'
theorem gr_wait {cs : St} {a : Nat → Int32} {k0 : Nat} {v : Int32} (h : GR cs 0 a) (hk : k0 < 12) : GR (sU cs 11 k0 v) 0 (upd a (104 + k0) v) := by
  obtain ⟨h1, h2, h3, h4, h5, h6⟩ := h
  have ne : ∀ c, ¬ c = 11 → sU cs 11 k0 v c = cs c := fun c hc => sU_ne _ _ _ hc
  refine ⟨?_, ?_, fun f k hf' hk' => ?_, fun k hk' => ?_, fun k hk' => ?_, fun k hk' => ?_⟩
  · rw [ne _ (by omega), upd_ne _ _ (by omega)]; exact h1
  · rw [ne _ (by omega), upd_ne _ _ (by omega)]; exact h2
  · rw [ne _ (by omega), upd_ne _ _ (by omega)]; exact h3 f k hf' hk'
  · rw [ne _ (by omega), upd_ne _ _ (by omega)]; exact h4 k hk'
  · rw [ne _ (by omega), upd_ne _ _ (by omega)]; exact h5 k hk'
  · show sU cs 11 k0 v 11 k = _
    rw [sU_eq]
    by_cases hkk : k = k0
    · subst hkk; rw [upd_eq, upd_eq]
    · rw [upd_ne _ _ hkk, upd_ne _ _ (by omega)]; exact h6 k hk'
theorem go_set {n w : Nat} {a : Nat → Int32} {f0 k0 : Nat} {v : Int32} (h : GO n w a) (hf : f0 < 9) (h6 : ¬ f0 = 6) (hk : k0 < 10) (hv : k0 < n → vld n f0 v) : GO n w (upd a (2 + 10 * f0 + k0) v) := by
  obtain ⟨h1, h2, h3, h4, h5, rank, hr⟩ := h
  refine ⟨h1, h2, by rw [upd_ne _ _ (by omega)]; exact h3, by rw [upd_ne _ _ (by omega)]; exact h4, fun f k hf' hk' => ?_, rank, fun i j hi hj hb => ?_⟩
  · by_cases hff : f = f0 ∧ k = k0
    · obtain ⟨rfl, rfl⟩ := hff
      rw [upd_eq]; exact hv hk'
    · rw [upd_ne _ _ (by omega)]; exact h5 f k hf' hk'
  · rw [upd_ne _ _ (by omega)] at hb
    exact hr i j hi hj hb
theorem go_far {n w j0 : Nat} {a : Nat → Int32} {v : Int32} (h : GO n w a) (hj : 92 ≤ j0) : GO n w (upd a j0 v) := by
  obtain ⟨h1, h2, h3, h4, h5, rank, hr⟩ := h
  refine ⟨h1, h2, by rw [upd_ne _ _ (by omega)]; exact h3, by rw [upd_ne _ _ (by omega)]; exact h4, fun f k hf' hk' => ?_, rank, fun i j hi hj hb => ?_⟩
  · rw [upd_ne _ _ (by omega)]; exact h5 f k hf' hk'
  · rw [upd_ne _ _ (by omega)] at hb
    exact hr i j hi hj hb
theorem go_waits {n w w' : Nat} {a : Nat → Int32} (h : GO n w a) (hw : w' ≤ 12) : GO n w' (upd a 1 (nI w')) := by
  obtain ⟨h1, h2, h3, h4, h5, rank, hr⟩ := h
  refine ⟨h1, hw, by rw [upd_ne _ _ (by omega)]; exact h3, upd_eq _ _ _, fun f k hf' hk' => ?_, rank, fun i j hi hj hb => ?_⟩
  · rw [upd_ne _ _ (by omega)]; exact h5 f k hf' hk'
  · rw [upd_ne _ _ (by omega)] at hb
    exact hr i j hi hj hb
theorem GR.at {cs : St} {a : Nat → Int32} (h : GR cs 0 a) (f : Nat) {k : Nat} (hf : f < 9) (hk : k < 10) : cs f k = a (2 + 10 * f + k) := by
  have := h.2.2.1 f k hf hk
  rwa [Nat.zero_add] at this
theorem GO.at {n w : Nat} {a : Nat → Int32} (h : GO n w a) (f : Nat) {k : Nat} (hf : f < 9) (hk : k < n) : vld n f (a (2 + 10 * f + k)) := h.2.2.2.2.1 f k hf hk
theorem wr_step {SO : St → Prop} {cs ms : St} {n w f0 k0 : Nat} {v : Int32} (hSO : SOk SO) (hR : Rel SO cs ms) (hO : GO n w (ms 0)) (hf : f0 < 9) (h6 : ¬ f0 = 6) (hk : k0 < 10) (hv : k0 < n → vld n f0 v) : Rel SO (sU cs f0 k0 v) (sU ms 0 (2 + 10 * f0 + k0) v) :=
  hR.ground hSO (fun c hc => sU_ne _ _ _ (by omega)) (fun c hc => sU_ne _ _ _ (by omega)) (by rw [sU_eq]; exact gr_set hR.1 hf hk) (by rw [sU_eq]; exact go_set hO hf h6 hk hv)
theorem w_t {x lo hi : Int32} (h1 : ¬ x < lo) (h2 : x ≤ hi) : f_X6_within x lo hi = true := by
  rw [w_iff]; rw [i32_lt] at h1; rw [i32_le] at h2; omega
theorem w_f1 {x lo hi : Int32} (h1 : x < lo) : f_X6_within x lo hi = false := by
  unfold f_X6_within; rw [if_pos h1]
theorem w_f2 {x lo hi : Int32} (h1 : ¬ x < lo) (h2 : ¬ x ≤ hi) : f_X6_within x lo hi = false := by
  unfold f_X6_within; rw [if_neg h1, if_pos (by rw [i32_lt]; rw [i32_le] at h2; omega)]
theorem s_goods {SO : St → Prop} (hSO : SOk SO) : ∀ cs ms, Rel SO cs ms → ∀ (a1 a2 : Int32), StepI (Rel SO) (f_X5_goods cs a1 a2) (f_X6_goods ms a1 a2) := by
  intro cs ms hR a1 a2
  obtain ⟨hG, ⟨n, w, hO⟩, -⟩ := id hR
  have hn := hO.1
  unfold f_X5_goods f_X6_goods
  simp only [bnd_s]
  rcases gr_cases hG.1 hO.2.2.1 hn a1 with ⟨e1, e2⟩ | ⟨e1, e2, k, hk, rfl⟩
  · rw [e1, e2]; simp only [b2i_f, if_true]; exact fin_step hSO hR _
  · rw [e1, e2]; simp only [b2i_t, if_false]
    by_cases h : a2 < 0
    · rw [if_pos h, w_f1 h]; simp only [b2i_f, if_true]; exact fin_step hSO hR _
    · rw [if_neg h]
      by_cases h2 : a2 ≤ 4095
      · rw [if_pos h2, w_t h h2]; simp only [b2i_t, if_false]
        rw [ck_nI (by omega) (by omega), ck_nI (by omega) (by omega), ck_32 (by omega) (by omega), sto_32 (by omega) (by omega)]
        have e : cs 3 k = ms 0 (32 + k) := hG.at 3 (by omega) (by omega)
        have hx : ∃ t, t < 4096 ∧ a2 = nI t := by
          rw [i32_lt] at h
          rw [i32_le] at h2
          have q1 : (4095 : Int32).toInt = 4095 := by decide
          have q2 : (0 : Int32).toInt = 0 := by decide
          exact in_range (by omega) ⟨by omega, by omega⟩
        rw [e]
        exact ⟨_, _, _, rfl, rfl, wr_step (f0 := 3) hSO hR hO (by omega) (by omega) (by omega) (fun _ => ⟨by omega, by omega, by omega, fun _ => hx, by omega, by omega, by omega⟩)⟩
      · rw [if_neg h2, w_f2 h h2]; simp only [b2i_f, if_true]; exact fin_step hSO hR _
theorem yr_of {x : Int32} (h : f_X6_isYear x = true) : -5000 ≤ x.toInt ∧ x.toInt ≤ 5000 := by
  unfold f_X6_isYear at h
  rw [bnd_s, w_iff] at h
  have q1 : (-5000 : Int32).toInt = -5000 := by decide
  have q2 : (5000 : Int32).toInt = 5000 := by decide
  omega
theorem s_span {SO : St → Prop} (hSO : SOk SO) : ∀ cs ms, Rel SO cs ms → ∀ (a1 a2 a3 : Int32), StepI (Rel SO) (f_X5_span cs a1 a2 a3) (f_X6_span ms a1 a2 a3) := by
  intro cs ms hR a1 a2 a3
  obtain ⟨hG, ⟨n, w, hO⟩, -⟩ := id hR
  have hn := hO.1
  unfold f_X5_span f_X6_span
  simp only [bnd_s, isYear_w]
  rcases gr_cases hG.1 hO.2.2.1 hn a1 with ⟨e1, e2⟩ | ⟨e1, e2, k, hk, rfl⟩
  · rw [e1, e2]; simp only [b2i_f, if_true]; exact fin_step hSO hR _
  · rw [e1, e2]; simp only [b2i_t, if_false]
    cases h2 : f_X6_isYear a2
    · simp only [b2i_f, if_true]; exact fin_step hSO hR _
    · simp only [b2i_t, if_false]
      cases h3 : f_X6_isYear a3
      · simp only [b2i_f, if_true]; exact fin_step hSO hR _
      · simp only [b2i_t, if_false]
        by_cases h : a2 ≤ a3
        · rw [if_pos h, if_pos h, ck_nI (by omega) (by omega), ck_nI (by omega) (by omega), sto_42 (by omega) (by omega), sto_52 (by omega) (by omega)]
          have r1 := wr_step (f0 := 4) (k0 := k) (v := a2) hSO hR hO (by omega) (by omega) (by omega) (fun _ => ⟨by omega, by omega, by omega, by omega, fun _ => yr_of h2, by omega, by omega⟩)
          have o1 : GO n w (sU ms 0 (2 + 10 * 4 + k) a2 0) := by
            rw [sU_eq]; exact go_set hO (by omega) (by omega) (by omega) (fun _ => ⟨by omega, by omega, by omega, by omega, fun _ => yr_of h2, by omega, by omega⟩)
          exact ⟨_, _, _, rfl, rfl, wr_step (f0 := 5) hSO r1 o1 (by omega) (by omega) (by omega) (fun _ => ⟨by omega, by omega, by omega, by omega, by omega, fun _ => yr_of h3, by omega⟩)⟩
        · rw [if_neg h, if_neg h]; exact fin_step hSO hR _
theorem s_tell {SO : St → Prop} (hSO : SOk SO) : ∀ cs ms, Rel SO cs ms → ∀ (a1 : Int32), StepI (Rel SO) (f_X5_tell cs a1) (f_X6_tell ms a1) := by
  intro cs ms hR a1
  obtain ⟨hG, ⟨n, w, hO⟩, -⟩ := id hR
  have hw := hO.2.1
  have e1 : ms 0 1 = nI w := hO.2.2.2.1
  have e2 : cs 13 1 = ms 0 1 := hG.2.1
  unfold f_X5_tell f_X6_tell
  simp only [bnd_s]
  rw [e2, e1]
  by_cases h : w = 12
  · subst h
    rw [if_neg (by decide), if_pos (by decide)]; exact fin_step hSO hR _
  · rw [if_pos (show nI w < (12 : Int32) from nI_lt (b := 12) (by omega) (by omega)), if_neg (show ¬ nI w = (12 : Int32) from fun q => h (nI_inj (b := 12) (by omega) (by omega) q)), sto_nI (by omega) (by omega), sto_104 (by omega) (by omega)]
    have q1 : sU cs 11 w a1 13 1 = nI w := by rw [sU_ne _ _ _ (by omega), e2, e1]
    have q2 : sU ms 0 (104 + w) a1 0 1 = nI w := by rw [sU_eq, upd_ne _ _ (by omega), e1]
    rw [q1, q2, nI_1]
    refine ⟨nI (w + 1), _, _, by rw [sU_eq, upd_eq], by rw [sU_eq, upd_eq], ?_⟩
    refine hR.ground hSO (n := n) (w := w + 1) (fun c hc => by rw [sU_ne _ _ _ (by omega), sU_ne _ _ _ (by omega)]) (fun c hc => by rw [sU_ne _ _ _ (by omega), sU_ne _ _ _ (by omega)]) ?_ ?_
    · rw [sU_eq, sU_eq]; exact gr_waits (gr_wait hG (by omega))
    · rw [sU_eq, sU_eq]; exact go_waits (go_far hO (by omega)) (by omega)
