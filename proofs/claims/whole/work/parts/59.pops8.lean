/-! the nearest; the last grave goes; what is told of a grave -/
def bsel (a : Nat → Int32) (k : Nat) : Nat → Option Nat
  | 0 => none
  | i + 1 => if i = k then bsel a k i else match bsel a k i with
    | none => some i
    | some j => if shN a k i * joN a k j ≤ shN a k j * joN a k i then some j else some i
theorem bsel_lt (a : Nat → Int32) (k : Nat) : ∀ i j, bsel a k i = some j → j < i := by
  intro i
  induction i with
  | zero => intro j h; cases h
  | succ i ih =>
    intro j h
    unfold bsel at h
    by_cases hk : i = k
    · rw [if_pos hk] at h; have := ih j h; omega
    · rw [if_neg hk] at h
      cases hb : bsel a k i with
      | none => rw [hb] at h; cases h; omega
      | some q =>
        rw [hb] at h
        simp only at h
        have hq := ih q hb
        split at h
        · cases h; omega
        · cases h; omega
theorem bsel_none (a : Nat → Int32) (k : Nat) : ∀ i, bsel a k i = none → i = 0 ∨ (i = 1 ∧ k = 0) := by
  intro i
  induction i with
  | zero => intro _; exact Or.inl rfl
  | succ i ih =>
    intro h
    unfold bsel at h
    by_cases hk : i = k
    · rw [if_pos hk] at h
      rcases ih h with h0 | ⟨h1, h2⟩
      · right; omega
      · omega
    · rw [if_neg hk] at h
      cases hb : bsel a k i with
      | none => rw [hb] at h; cases h
      | some q =>
        rw [hb] at h
        simp only at h
        split at h <;> cases h
def bI (o : Option Nat) : Int32 := match o with | none => -1 | some j => nI j
def bT (a : Nat → Int32) (k : Nat) (o : Option Nat) : Int32 × Int32 × Int32 := match o with | none => (-1, 0, 1) | some j => (nI j, nI (shN a k j), nI (joN a k j))
theorem mul_le_nI {a b c d : Nat} (ha : a ≤ 12) (hb : b ≤ 12) (hc : c ≤ 12) (hd : d ≤ 12) : (nI a * nI b ≤ nI c * nI d) ↔ a * b ≤ c * d := by
  rw [pk_mul, pk_mul]
  have h1 : a * b ≤ 12 * 12 := Nat.mul_le_mul ha hb
  have h2 : c * d ≤ 12 * 12 := Nat.mul_le_mul hc hd
  exact nI_leI (by omega) (by omega)
theorem near_c {cs ms : St} {N n w k : Nat} (hG : GR cs 0 (ms 0)) (hO : GO n w (ms 0)) (hN : 100 ≤ N) (hk : k < n) : f_X2_mostLike N cs (nI k) = some (bI (bsel (ms 0) k n)) := by
  have hn := hO.1
  have e1 : cs 13 0 = nI n := hG.1.trans hO.2.2.1
  unfold f_X2_mostLike
  have h := loopF (fun fuel (s : Int32 × Int32 × Int32) i => f_X2_mostLike_L10 N (nI k) cs (fun a_9 _ _ _ => some a_9) fuel s.1 s.2.1 s.2.2 i) (fun s => some s.1) n (fun i => bT (ms 0) k (bsel (ms 0) k i)) (fun i fuel hi => ?_) (fun fuel => ?_) n 0 N (by omega) (by omega)
  · have e : f_X2_mostLike_L10 N (nI k) cs (fun a_9 _ _ _ => some a_9) N (-1) 0 1 0 = some (bT (ms 0) k (bsel (ms 0) k n)).1 := h
    rw [e]
    cases bsel (ms 0) k n <;> rfl
  · show f_X2_mostLike_L10 N (nI k) cs _ (fuel + 1) _ _ _ _ = f_X2_mostLike_L10 N (nI k) cs _ fuel _ _ _ _
    rw [f_X2_mostLike_L10, e1, if_neg (nI_ge hi (by omega)), nI_1]
    by_cases hik : i = k
    · rw [if_pos (by rw [hik]), show bsel (ms 0) k (i + 1) = bsel (ms 0) k i from by rw [bsel, if_pos hik]]
    · rw [if_neg (fun q => hik (nI_inj (by omega) (by omega) q)), both_c hG hO hk hi, either_c hG hO hk hi, bd1_s, bd1_s]
      cases hb : bsel (ms 0) k i with
      | none =>
        rw [show bsel (ms 0) k (i + 1) = some i from by rw [bsel, if_neg hik, hb]]
        show (if (-1 : Int32) < 0 then _ else _) = _
        rw [if_pos (by decide)]
        rfl
      | some j =>
        have hj := bsel_lt _ _ _ _ hb
        show (if nI j < 0 then _ else if nI (shN (ms 0) k i) * nI (joN (ms 0) k j) ≤ nI (shN (ms 0) k j) * nI (joN (ms 0) k i) then _ else _) = _
        rw [if_neg (nI_pos (by omega))]
        by_cases hc : shN (ms 0) k i * joN (ms 0) k j ≤ shN (ms 0) k j * joN (ms 0) k i
        · rw [if_pos ((mul_le_nI (shN_le _ _ _) (joN_rng _ _ _).2 (shN_le _ _ _) (joN_rng _ _ _).2).mpr hc), show bsel (ms 0) k (i + 1) = some j from by rw [bsel, if_neg hik, hb]; exact if_pos hc]
        · rw [if_neg (fun q => hc ((mul_le_nI (shN_le _ _ _) (joN_rng _ _ _).2 (shN_le _ _ _) (joN_rng _ _ _).2).mp q)), show bsel (ms 0) k (i + 1) = some i from by rw [bsel, if_neg hik, hb]; exact if_neg hc]
          rfl
  · show f_X2_mostLike_L10 N (nI k) cs _ (fuel + 1) _ _ _ _ = _
    rw [f_X2_mostLike_L10, e1, if_pos (nI_le (Nat.le_refl n) (by omega))]
theorem near_m {ms : St} {N n w k : Nat} (K : Int32 → Int32 → Option (Int32 × St)) (hO : GO n w (ms 0)) (hN : 100 ≤ N) (hk : k < n) : f_X6_nearest_L19 N (nI k) ms K N (-1) 0 = K (bI (bsel (ms 0) k n)) (nI n) := by
  have hn := hO.1
  have e0 : ms 0 0 = nI n := hO.2.2.1
  refine loopF (fun fuel s i => f_X6_nearest_L19 N (nI k) ms K fuel s i) (fun s => K s (nI n)) n (fun i => bI (bsel (ms 0) k i)) (fun i fuel hi => ?_) (fun fuel => ?_) n 0 N (by omega) (by omega)
  · show f_X6_nearest_L19 N (nI k) ms K (fuel + 1) _ _ = f_X6_nearest_L19 N (nI k) ms K fuel _ _
    rw [f_X6_nearest_L19, e0, if_neg (nI_ge hi (by omega)), nI_1]
    by_cases hik : i = k
    · rw [if_pos (by rw [hik]), show bsel (ms 0) k (i + 1) = bsel (ms 0) k i from by rw [bsel, if_pos hik]]
    · rw [if_neg (fun q => hik (nI_inj (by omega) (by omega) q))]
      cases hb : bsel (ms 0) k i with
      | none =>
        rw [show bsel (ms 0) k (i + 1) = some i from by rw [bsel, if_neg hik, hb]]
        show (if (-1 : Int32) < 0 then _ else _) = _
        rw [if_pos (by decide)]
        rfl
      | some j =>
        have hj := bsel_lt _ _ _ _ hb
        show (if nI j < 0 then _ else bd1 (f_X6_both N ms (nI k) (nI i)) fun r_7 => bd1 (f_X6_either N ms (nI k) (nI j)) fun r_9 => bd1 (f_X6_both N ms (nI k) (nI j)) fun r_11 => bd1 (f_X6_either N ms (nI k) (nI i)) fun r_13 => _) = _
        rw [if_neg (nI_pos (by omega)), both_m hO hN hk hi, either_m hO hN hk (by omega), both_m hO hN hk (by omega), either_m hO hN hk hi, bd1_s, bd1_s, bd1_s, bd1_s]
        by_cases hc : shN (ms 0) k i * joN (ms 0) k j ≤ shN (ms 0) k j * joN (ms 0) k i
        · rw [if_pos ((mul_le_nI (shN_le _ _ _) (joN_rng _ _ _).2 (shN_le _ _ _) (joN_rng _ _ _).2).mpr hc), show bsel (ms 0) k (i + 1) = some j from by rw [bsel, if_neg hik, hb]; exact if_pos hc]
        · rw [if_neg (fun q => hc ((mul_le_nI (shN_le _ _ _) (joN_rng _ _ _).2 (shN_le _ _ _) (joN_rng _ _ _).2).mp q)), show bsel (ms 0) k (i + 1) = some i from by rw [bsel, if_neg hik, hb]; exact if_neg hc]
          rfl
  · show f_X6_nearest_L19 N (nI k) ms K (fuel + 1) _ _ = _
    rw [f_X6_nearest_L19, e0, if_pos (nI_le (Nat.le_refl n) (by omega))]
theorem s_nearest {SO : St → Prop} (hSO : SOk SO) {N : Nat} (hN : 100 ≤ N) : ∀ cs ms, Rel SO cs ms → ∀ (a1 : Int32), StepI (Rel SO) (f_X5_nearest N cs a1) (f_X6_nearest N ms a1) := by
  intro cs ms hR a1
  obtain ⟨hG, ⟨n, w, hO⟩, -⟩ := id hR
  have hn := hO.1
  have e1 : cs 13 0 = nI n := hG.1.trans hO.2.2.1
  unfold f_X5_nearest f_X6_nearest
  simp only [bnd_s]
  rcases gr_cases hG.1 hO.2.2.1 hn a1 with ⟨q1, q2⟩ | ⟨q1, q2, k, hk, rfl⟩
  · rw [q1, q2]; simp only [b2i_f, if_true]; exact fin_step hSO hR _
  · rw [q1, q2]; simp only [b2i_t, if_false]
    rw [near_m _ hO hN hk, e1]
    by_cases h2 : 2 ≤ n
    · rw [if_pos (show (2 : Int32) ≤ nI n from nI_le (a := 2) h2 (by omega)), near_c hG hO hN hk, bd1_s]
      cases hb : bsel (ms 0) k n with
      | none => rcases bsel_none _ _ _ hb with h | h <;> omega
      | some j =>
        have hj := bsel_lt _ _ _ _ hb
        rw [if_pos (show (0 : Int32) ≤ bI (some j) from nI_pos' (by omega))]
        exact ⟨_, _, _, rfl, rfl, hR⟩
    · rw [if_neg (show ¬ (2 : Int32) ≤ nI n from nI_ge (b := 2) (by omega) (by omega))]
      have h1 : n = 1 := by omega
      subst h1
      have hk0 : k = 0 := by omega
      subst hk0
      rw [show bsel (ms 0) 0 1 = none from rfl, if_neg (show ¬ (0 : Int32) ≤ bI none by decide)]
      exact fin_step hSO hR _
/-! fill -/
def flC (f : Nat → Int32) (m i : Nat) : Nat → Int32 := fun j => if j < i then f j &&& (((1 : Int32) <<< (nI m &&& 31)) ^^^ (-1 : Int32)) else f j
theorem flC_0 (f : Nat → Int32) (m : Nat) : flC f m 0 = f := by
  funext j; unfold flC; rw [if_neg (by omega)]
theorem flC_s (f : Nat → Int32) (m i : Nat) : upd (flC f m i) i (flC f m i i &&& (((1 : Int32) <<< (nI m &&& 31)) ^^^ (-1 : Int32))) = flC f m (i + 1) := by
  funext j
  unfold upd flC
  by_cases h : j = i
  · subst h; rw [if_pos rfl, if_neg (by omega), if_pos (by omega)]
  · rw [if_neg h]
    by_cases h2 : j < i
    · rw [if_pos h2, if_pos (by omega)]
    · rw [if_neg h2, if_neg (by omega)]
def flM (f : Nat → Int32) (m i : Nat) : Nat → Int32 := fun j => if 62 ≤ j ∧ j < 62 + i then f j &&& (((1 : Int32) <<< (nI m &&& 31)) ^^^ (-1 : Int32)) else f j
theorem flM_0 (f : Nat → Int32) (m : Nat) : flM f m 0 = f := by
  funext j; unfold flM; rw [if_neg (by omega)]
theorem flM_s (f : Nat → Int32) (m i : Nat) : upd (flM f m i) (62 + i) (flM f m i (62 + i) &&& (((1 : Int32) <<< (nI m &&& 31)) ^^^ (-1 : Int32))) = flM f m (i + 1) := by
  funext j
  unfold upd flM
  by_cases h : j = 62 + i
  · subst h; rw [if_pos rfl, if_neg (by omega), if_pos (by omega)]
  · rw [if_neg h]
    by_cases h2 : 62 ≤ j ∧ j < 62 + i
    · rw [if_pos h2, if_pos (by omega)]
    · rw [if_neg h2, if_neg (by omega)]
theorem fill_c {st : St} {N m : Nat} (hN : 100 ≤ N) (hm : m < 10) (e : st 13 0 = nI m) : f_X2_closeLast_L12 N (fun _ st_6 => some st_6) N 0 st = some (sF st 6 (flC (st 6) m m)) := by
  have h := loopF (fun fuel s i => f_X2_closeLast_L12 N (fun _ st_6 => some st_6) fuel i s) (fun s => some s) m (fun i => sF st 6 (flC (st 6) m i)) (fun i fuel hi => ?_) (fun fuel => ?_) m 0 N (by omega) (by omega)
  · simpa [flC_0, sF_self, nI_0] using h
  · show f_X2_closeLast_L12 N _ (fuel + 1) (nI i) _ = _
    rw [f_X2_closeLast_L12, sF_ne _ _ (by omega), e, if_neg (nI_ge hi (by omega)), ck_nI (by omega) (by omega), bnd_s, sF_eq, sU_sF, flC_s, nI_1]
  · show f_X2_closeLast_L12 N _ (fuel + 1) (nI m) _ = _
    rw [f_X2_closeLast_L12, sF_ne _ _ (by omega), e, if_pos (nI_le (Nat.le_refl m) (by omega))]
theorem fill_m {st : St} {N m : Nat} (K : Int32 → St → Option (Int32 × St)) (hN : 100 ≤ N) (hm : m < 10) (e : st 0 0 = nI m) : f_X6_fill_L28 N K N 0 st = K (nI m) (sF st 0 (flM (st 0) m m)) := by
  have z : ∀ i, sF st 0 (flM (st 0) m i) 0 0 = nI m := fun i => by rw [sF_eq]; unfold flM; rw [if_neg (by omega)]; exact e
  have h := loopF (fun fuel s i => f_X6_fill_L28 N K fuel i s) (fun s => K (nI m) s) m (fun i => sF st 0 (flM (st 0) m i)) (fun i fuel hi => ?_) (fun fuel => ?_) m 0 N (by omega) (by omega)
  · simpa [flM_0, sF_self, nI_0] using h
  · show f_X6_fill_L28 N K (fuel + 1) (nI i) _ = _
    rw [f_X6_fill_L28, z, if_neg (nI_ge hi (by omega)), ck_62 (by omega) (by omega), sto_62 (by omega) (by omega), sF_eq, sU_sF, flM_s, nI_1]
  · show f_X6_fill_L28 N K (fuel + 1) (nI m) _ = _
    rw [f_X6_fill_L28, z, if_pos (nI_le (Nat.le_refl m) (by omega))]
theorem s_fill {SO : St → Prop} (hSO : SOk SO) {N : Nat} (hN : 100 ≤ N) : ∀ cs ms, Rel SO cs ms → StepI (Rel SO) (f_X5_fill N cs) (f_X6_fill N ms) := by
  intro cs ms hR
  obtain ⟨hG, ⟨n, w, hO⟩, -⟩ := id hR
  have hn := hO.1
  have e0 : ms 0 0 = nI n := hO.2.2.1
  have e1 : cs 13 0 = nI n := hG.1.trans e0
  unfold f_X5_fill f_X6_fill f_X2_closeLast
  simp only [bnd_s]
  rw [e0, e1]
  by_cases h : n = 0
  · subst h
    rw [if_pos (show nI 0 = (0 : Int32) from rfl), if_pos (show nI 0 = (0 : Int32) from rfl)]; exact fin_step hSO hR _
  · have hz : ¬ nI n = (0 : Int32) := nI_ne0 (by omega) (by omega)
    rw [if_neg hz, if_neg hz]
    obtain ⟨m, rfl⟩ : ∃ m, n = m + 1 := ⟨n - 1, by omega⟩
    rw [nI_pred]
    rw [fill_c (m := m) hN (by omega) (by rw [sU_eq, upd_eq]), fill_m (m := m) _ hN (by omega) (by rw [sU_eq, upd_eq]), bd1_s]
    refine ⟨nI m, sF (sU cs 13 0 (nI m)) 6 (flC (sU cs 13 0 (nI m) 6) m m), sF (sU ms 0 0 (nI m)) 0 (flM (sU ms 0 0 (nI m) 0) m m), ?_, ?_, ?_⟩
    · show some _ = some _
      rw [sF_ne _ _ (by omega), sU_eq, upd_eq]
    · show some _ = some _
      rw [sF_eq, sU_eq]
      unfold flM
      rw [if_neg (by omega), upd_eq]
    · refine hR.ground hSO (n := m) (w := w) (fun c hc => by rw [sF_ne _ _ (by omega), sU_ne _ _ _ (by omega)]) (fun c hc => by rw [sF_ne _ _ (by omega), sU_ne _ _ _ (by omega)]) ?_ ?_
      · rw [sF_eq, sU_eq, sU_ne cs _ _ (show ¬ 6 = 13 by omega)]
        obtain ⟨h1, h2, h3, h4, h5, h6⟩ := gr_size (v := nI m) hG
        have nv : ∀ j, ¬ (62 ≤ j ∧ j < 62 + m) → flM (upd (ms 0) 0 (nI m)) m m j = upd (ms 0) 0 (nI m) j := fun j hj => by unfold flM; rw [if_neg hj]
        refine ⟨?_, ?_, fun f k hf hk => ?_, fun k hk => ?_, fun k hk => ?_, fun k hk => ?_⟩
        · rw [sF_ne _ _ (by omega), nv _ (by omega)]; exact h1
        · rw [sF_ne _ _ (by omega), nv _ (by omega)]; exact h2
        · by_cases hf6 : f = 6
          · subst hf6
            show sF _ 6 (flC (cs 6) m m) 6 k = flM (upd (ms 0) 0 (nI m)) m m (62 + k)
            rw [sF_eq]
            have q := hG.at 6 (k := k) (by omega) hk
            have q' : cs 6 k = ms 0 (62 + k) := q
            unfold flC flM
            rw [upd_ne _ _ (by omega), q']
            by_cases hkm : k < m
            · rw [if_pos hkm, if_pos (by omega)]
            · rw [if_neg hkm, if_neg (by omega)]
          · rw [sF_ne _ _ (by omega), nv _ (by omega)]; exact h3 f k hf hk
        · rw [sF_ne _ _ (by omega), nv _ (by omega)]; exact h4 k hk
        · rw [sF_ne _ _ (by omega), nv _ (by omega)]; exact h5 k hk
        · rw [sF_ne _ _ (by omega), nv _ (by omega)]; exact h6 k hk
      · rw [sF_eq, sU_eq]
        obtain ⟨g1, g2, g3, g4, g5, rank, hr⟩ := id hO
        have nv : ∀ j, ¬ (62 ≤ j ∧ j < 62 + m) → ¬ j = 0 → flM (upd (ms 0) 0 (nI m)) m m j = ms 0 j := fun j hj hj0 => by unfold flM; rw [if_neg hj, upd_ne _ _ hj0]
        have cv : ∀ i, i < m → flM (upd (ms 0) 0 (nI m)) m m (62 + i) = ms 0 (62 + i) &&& (((1 : Int32) <<< (nI m &&& 31)) ^^^ (-1 : Int32)) := fun i hi => by unfold flM; rw [if_pos (by omega), upd_ne _ _ (by omega)]
        refine ⟨by omega, g2, ?_, ?_, fun f k hf hk => ?_, rank, fun i j hi hj hb => ?_⟩
        · unfold flM; rw [if_neg (by omega), upd_eq]
        · rw [nv _ (by omega) (by omega)]; exact g4
        · by_cases hf6 : f = 6
          · subst hf6
            refine ⟨by omega, by omega, by omega, by omega, by omega, by omega, fun _ => ?_⟩
            show ∃ t, t < 2 ^ m ∧ flM (upd (ms 0) 0 (nI m)) m m (62 + k) = nI t
            rw [cv k hk, cN_eq (ms 0) k, nI_bit (by omega), nI_andnot]
            refine ⟨_, ?_, rfl⟩
            have hlt := hO.cN_lt (k := k) (by omega)
            refine lt_pow_of_bits (fun j hj => ?_)
            rw [Nat.testBit_and, Nat.testBit_xor, Nat.testBit_and, Nat.testBit_two_pow]
            by_cases hjm : j = m
            · subst hjm; simp
            · rw [bit_lt hlt (show m + 1 ≤ j by omega)]; rfl
          · rw [nv _ (by omega) (by omega)]
            have q := g5 f k hf (by omega)
            obtain ⟨v0, v1, v2, v3, v4, v5, -⟩ := q
            exact ⟨v0, v1, v2, v3, v4, v5, fun e => absurd e hf6⟩
        · rw [cv i hi, b_and] at hb
          exact hr i j (by omega) (by omega) (by cases q : bt (ms 0 (62 + i)) j; rw [q] at hb; cases hb; rfl)
