/-! the reference's search: the cost of a place, the next one -/
theorem gS_mask {a : Nat → Int32} {G : Nat → Nat} {n mask : Nat} (h : ∀ i, i < n → G i = tkG a mask i) (p : Nat → Bool) : guQ p G n = guQ p (gN a) n &&& mask := by
  apply bits_ext
  intro b
  rw [Nat.testBit_and]
  cases q : (guQ p G n).testBit b
  · cases q2 : (guQ p (gN a) n).testBit b
    · rfl
    · cases q3 : mask.testBit b
      · rfl
      · obtain ⟨i, hi, h1, h2⟩ := (guQ_bit _ _ b _).mp q2
        have : (guQ p G n).testBit b = true := (guQ_bit _ _ b _).mpr ⟨i, hi, h1, by rw [h i hi]; unfold tkG; rw [Nat.testBit_and, h2, q3]; rfl⟩
        rw [q] at this; cases this
  · obtain ⟨i, hi, h1, h2⟩ := (guQ_bit _ _ b _).mp q
    rw [h i hi] at h2
    unfold tkG at h2
    rw [Nat.testBit_and, Bool.and_eq_true] at h2
    rw [(guQ_bit _ _ b _).mpr ⟨i, hi, h1, h2.1⟩, h2.2]; rfl
theorem af_cp {a : Nat → Int32} {n S g : Nat} : guQ (fun h => (cp n (S ||| 2 ^ g)).testBit h) (gN a) n = afN a n S g := by
  refine guQ_ext (fun i hi hp => ⟨i, hi, ?_, rfl⟩) (fun i hi hp => ⟨i, hi, ?_, rfl⟩)
  · rw [cp_bit, decide_eq_true hi, Nat.testBit_or, Nat.testBit_two_pow] at hp
    by_cases q : i = g
    · subst q; rw [decide_eq_true rfl, Bool.or_true] at hp; cases hp
    · rw [decide_eq_false (fun z => q z.symm), Bool.or_false] at hp
      rw [decide_eq_false q]
      simpa using hp
  · rw [cp_bit, decide_eq_true hi, Nat.testBit_or, Nat.testBit_two_pow]
    rw [Bool.and_eq_true, Bool.not_eq_true', Bool.not_eq_true', decide_eq_false_iff_not] at hp
    rw [hp.1, decide_eq_false (fun z => hp.2 z.symm)]; rfl
theorem hq_hc {a : Nat → Int32} {G Lk : Nat → Nat} {n w mask S g : Nat} (hO : GO n w a) (h : ∀ i, i < n → G i = tkG a mask i ∧ Lk i = tkL a mask i) (hg : g < n) : hq G Lk n S g = hc a n g S mask := by
  unfold hq gS
  rw [gS_mask (fun i hi => (h i hi).1), gS_mask (fun i hi => (h i hi).1), af_cp, (h g hg).2]
  show pc (((bfN a n S &&& mask) &&& (afN a n S g &&& mask)) &&& (lkN a g &&& mask)) = hcT a g ((bfN a n S &&& afN a n S g) &&& mask)
  have hb := bfN_lt (S := S) hO
  unfold lkN hcT
  cases mh a g
  · simp only [Bool.false_eq_true, if_false]
    apply congrArg pc
    apply bits_ext
    intro b
    have h4 := bits_4095 hb b
    simp only [Nat.testBit_and, Nat.testBit_xor]
    cases h1 : (bfN a n S).testBit b <;> cases h2 : (4095 : Nat).testBit b <;> cases h3 : (gN a g).testBit b <;> cases h5 : (afN a n S g).testBit b <;> cases h6 : mask.testBit b <;> simp_all
  · simp only [if_true, Nat.zero_and, Nat.and_zero]
    decide
/-- a grave that may stand next and isn't too dear -/
def Pn (a : Nat → Int32) (n mask c L S g : Nat) : Prop := may (cN a) S g = true ∧ c + hc a n g S mask ≤ L
theorem hc_le (a : Nat → Int32) (n g S mask : Nat) : hc a n g S mask ≤ 12 := by
  unfold hc hcT
  split
  · omega
  · exact pc_le _
theorem next_m {st : St} {N n w mask k c L S : Nat} (K : Int32 → Option St) (hO : GO n w (st 0)) (hN : 100 ≤ N) (hk : k < n) (h8 : st 8 k = nI c) (hL : st 10 2 = nI L) (hc1 : c ≤ 1000) (hL1 : L ≤ 1000) : ∀ e i fuel, i + e = n → e < fuel → ∃ g, i ≤ g ∧ g ≤ n ∧ (∀ j, i ≤ j → j < g → ¬ Pn (st 0) n mask c L S j) ∧ (g < n → Pn (st 0) n mask c L S g) ∧ f_X6_search_L76 N (nI mask) (nI n) (nI k) (nI S) st K fuel (nI i) = K (nI g) := by
  have hn := hO.1
  intro e
  induction e with
  | zero =>
    intro i fuel h1 h2
    obtain ⟨fuel, rfl⟩ : ∃ f, fuel = f + 1 := ⟨fuel - 1, by omega⟩
    have : i = n := by omega
    subst this
    refine ⟨i, Nat.le_refl _, Nat.le_refl _, fun j a b => by omega, fun z => by omega, ?_⟩
    rw [f_X6_search_L76, if_pos (nI_le (Nat.le_refl i) (by omega))]
  | succ e ih =>
    intro i fuel h1 h2
    obtain ⟨fuel, rfl⟩ : ∃ f, fuel = f + 1 := ⟨fuel - 1, by omega⟩
    have hi : i < n := by omega
    have hcl := hO.cN_lt hi
    have hp := pow_le10 hn
    rw [f_X6_search_L76, if_neg (nI_ge hi (by omega)), b_tst _ (by omega), nI_bt (by omega), nI_1]
    simp only [b2i_1]
    have skip : ¬ Pn (st 0) n mask c L S i → ∃ g, i ≤ g ∧ g ≤ n ∧ (∀ j, i ≤ j → j < g → ¬ Pn (st 0) n mask c L S j) ∧ (g < n → Pn (st 0) n mask c L S g) ∧ f_X6_search_L76 N (nI mask) (nI n) (nI k) (nI S) st K fuel (nI (i + 1)) = K (nI g) := by
      intro hnp
      obtain ⟨g, g1, g2, g3, g4, g5⟩ := ih (i + 1) fuel (by omega) (by omega)
      refine ⟨g, by omega, g2, fun j a b => ?_, g4, g5⟩
      by_cases q : j = i
      · subst q; exact hnp
      · exact g3 j (by omega) b
    cases hb : S.testBit i
    · simp only [Bool.false_eq_true, if_false]
      rw [ck_62 (by omega) (by omega), cN_eq (st 0) i]
      by_cases hs : sub (cN (st 0) i) S
      · rw [if_pos ((andnot_0 (by omega)).mpr hs), ck_nI (by omega) (by omega), holesOf_m hO hN hi, bd1_s, h8, hL, nI_add]
        have hle := hc_le (st 0) n i S mask
        by_cases hd : c + hc (st 0) n i S mask ≤ L
        · rw [if_pos (nI_le hd (by omega))]
          exact ⟨i, Nat.le_refl _, by omega, fun j a b => by omega, fun _ => ⟨may_sub.mpr ⟨hb, hs⟩, hd⟩, rfl⟩
        · rw [if_neg (nI_ge (by omega) (by omega))]
          exact skip (fun q => hd q.2)
      · rw [if_neg (fun q => hs ((andnot_0 (by omega)).mp q))]
        exact skip (fun q => hs (may_sub.mp q.1).2)
    · simp only [if_true]
      exact skip (fun q => by have := may_no q.1; rw [hb] at this; cases this)
/-- a whole row is taken -/
theorem take_m {st : St} {N n c L : Nat} (hN : 100 ≤ N) (hn : n ≤ 10) (hL : st 10 2 = nI L) (hL1 : L ≤ 1000) (hc : c ≤ L) : ∃ st', f_X6_take N st (nI c) (nI n) = some st' ∧ (∀ q, ¬ q = 6 → ¬ q = 10 → st' q = st q) ∧ st' 10 0 = st 10 0 ∧ st' 10 1 = st 10 1 ∧ st' 10 2 = nI c ∧ (c < L → st' 10 3 = 1 ∧ ∀ j, j < n → st' 6 j = st 7 j) ∧ (c = L → st' 10 3 = st 10 3 + 1 ∧ st' 6 = st 6) := by
  unfold f_X6_take
  rw [hL]
  simp only [bnd_s]
  by_cases h : c = L
  · subst h
    rw [if_pos (nI_le (Nat.le_refl _) (by omega))]
    refine ⟨_, rfl, fun q _ h10 => sU_ne _ _ _ h10, ?_, ?_, ?_, fun z => by omega, fun _ => ⟨?_, ?_⟩⟩
    · rw [sU_eq, upd_ne _ _ (by omega)]
    · rw [sU_eq, upd_ne _ _ (by omega)]
    · rw [sU_eq, upd_ne _ _ (by omega)]; exact hL
    · rw [sU_eq, upd_eq]
    · exact sU_ne _ _ _ (by omega)
  · rw [if_neg (nI_ge (show c < L by omega) (by omega))]
    generalize hs : sU (sU st 10 2 (nI c)) 10 3 0 = s
    have s7 : s 7 = st 7 := by rw [← hs, sU_ne _ _ _ (by omega), sU_ne _ _ _ (by omega)]
    have hl : f_X6_take_L20 N (nI n) (fun a_8 st_9 => some (sU st_9 10 3 ((st_9 10 3) + 1))) N 0 s = some (sU (sF s 6 (cpF (st 7) (s 6) n)) 10 3 ((sF s 6 (cpF (st 7) (s 6) n) 10 3) + 1)) := by
      have h := loopF (fun fuel t j => f_X6_take_L20 N (nI n) (fun a_8 st_9 => some (sU st_9 10 3 ((st_9 10 3) + 1))) fuel j t) (fun t => some (sU t 10 3 ((t 10 3) + 1))) n (fun j => sF s 6 (cpF (st 7) (s 6) j)) (fun j fuel hj => ?_) (fun fuel => ?_) n 0 N (by omega) (by omega)
      · simp only [cpF_0, sF_self] at h
        exact h
      · show f_X6_take_L20 N (nI n) _ (fuel + 1) (nI j) _ = _
        rw [f_X6_take_L20, if_neg (nI_ge hj (by omega)), ck_nI (by omega) (by omega), sto_nI (by omega) (by omega), sF_ne _ _ (show ¬ 7 = 6 by omega), s7, sU_sF, cpF_s, nI_1]
      · show f_X6_take_L20 N (nI n) _ (fuel + 1) (nI n) _ = _
        rw [f_X6_take_L20, if_pos (nI_le (Nat.le_refl n) (by omega))]
    rw [hl]
    have t10 : sF s 6 (cpF (st 7) (s 6) n) 10 = s 10 := sF_ne _ _ (by omega)
    refine ⟨_, rfl, fun q h6 h10 => ?_, ?_, ?_, ?_, fun _ => ⟨?_, fun j hj => ?_⟩, fun z => absurd z h⟩
    · rw [sU_ne _ _ _ h10, sF_ne _ _ h6, ← hs, sU_ne _ _ _ h10, sU_ne _ _ _ h10]
    · rw [sU_eq, t10, upd_ne _ _ (by omega), ← hs, sU_eq, upd_ne _ _ (by omega), sU_eq, upd_ne _ _ (by omega)]
    · rw [sU_eq, t10, upd_ne _ _ (by omega), ← hs, sU_eq, upd_ne _ _ (by omega), sU_eq, upd_ne _ _ (by omega)]
    · rw [sU_eq, t10, upd_ne _ _ (by omega), ← hs, sU_eq, upd_ne _ _ (by omega), sU_eq, upd_eq]
    · rw [sU_eq, upd_eq, t10, ← hs, sU_eq, upd_eq]; decide
    · rw [sU_ne _ _ _ (by omega), sF_eq]; unfold cpF; rw [if_pos hj]
