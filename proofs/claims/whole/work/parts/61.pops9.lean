/-! what is told of a grave; what is later; a stretch is copied; a cut -/
def bs (p : Nat → Bool) : Nat → Nat
  | 0 => 0
  | i + 1 => if p i then bs p i ||| 2 ^ i else bs p i
theorem bs_bit (p : Nat → Bool) (j : Nat) : ∀ n, (bs p n).testBit j = (decide (j < n) && p j) := by
  intro n
  induction n with
  | zero => simp [bs]
  | succ n ih =>
    unfold bs
    by_cases hjn : j = n
    · subst hjn
      have hz : (bs p j).testBit j = false := by rw [ih]; simp
      cases hp : p j
      · simp [hz]
      · simp [Nat.testBit_or, Nat.testBit_two_pow, hz]
    · have hd : decide (j < n + 1) = decide (j < n) := by
        by_cases h : j < n
        · rw [decide_eq_true h, decide_eq_true (by omega)]
        · rw [decide_eq_false h, decide_eq_false (by omega)]
      rw [hd, ← ih]
      split
      · rw [Nat.testBit_or, Nat.testBit_two_pow, decide_eq_false (fun q => hjn q.symm), Bool.or_false]
      · rfl
theorem bs_lt (p : Nat → Bool) (n : Nat) : bs p n < 2 ^ n := lt_pow_of_bits (fun i hi => by rw [bs_bit, decide_eq_false (by omega)]; rfl)
theorem bs_lt' (p : Nat → Bool) {n : Nat} (hn : n ≤ 10) : bs p n < 1024 := Nat.lt_of_lt_of_le (bs_lt p n) (pow_le10 hn)
theorem pc_n {t n : Nat} (h : t < 2 ^ n) (hn : n ≤ 10) : pc t = pcN n t := by
  have := pcN_big h (12 - n)
  rw [show n + (12 - n) = 12 by omega] at this
  exact this
theorem doesCut_m {ms : St} {n w i k : Nat} (hO : GO n w (ms 0)) (hi : i < n) (hk : k < n) : f_X6_doesCut ms (nI i) (nI k) = some ((cN (ms 0) i).testBit k) := by
  have hn := hO.1
  unfold f_X6_doesCut
  rw [ck_62 (by omega) (by omega), b_tst _ (by omega)]
  simp only [b2i_1]
  show (if bt (ms 0 (62 + i)) k = true then some true else some false) = some (bt (ms 0 (62 + i)) k)
  cases bt (ms 0 (62 + i)) k <;> rfl
def cuB (a : Nat → Int32) (k n : Nat) : Nat := bs (fun j => (cN a j).testBit k) n
theorem cutBy_m {ms : St} {N n w k : Nat} (hO : GO n w (ms 0)) (hN : 100 ≤ N) (hk : k < n) : f_X6_cutBy N ms (nI k) = some (nI (pc (cuB (ms 0) k n))) := by
  have hn := hO.1
  have e0 : ms 0 0 = nI n := hO.2.2.1
  unfold f_X6_cutBy
  rw [show pc (cuB (ms 0) k n) = pcN n (cuB (ms 0) k n) from pc_n (bs_lt _ n) hn]
  refine loopF (fun fuel s i => f_X6_cutBy_L4 N (nI k) ms (fun a_7 _ => some a_7) fuel s i) (fun s => some s) n (fun i => nI (pcN i (cuB (ms 0) k n))) (fun i fuel hi => ?_) (fun fuel => ?_) n 0 N (by omega) (by omega)
  · show f_X6_cutBy_L4 N (nI k) ms _ (fuel + 1) _ _ = f_X6_cutBy_L4 N (nI k) ms _ fuel (nI (pcN i (cuB (ms 0) k n) + (if (cuB (ms 0) k n).testBit i then 1 else 0))) _
    rw [f_X6_cutBy_L4, e0, if_neg (nI_ge hi (by omega)), doesCut_m hO hi hk, bd1_s, nI_1]
    have hb : (cuB (ms 0) k n).testBit i = (cN (ms 0) i).testBit k := by unfold cuB; rw [bs_bit, decide_eq_true hi]; rfl
    rw [hb]
    simp only [bnd_s]
    cases (cN (ms 0) i).testBit k
    · simp only [b2i_f, if_true, Bool.false_eq_true, if_false]
      rw [show nI (pcN i (cuB (ms 0) k n)) + (0 : Int32) = nI (pcN i (cuB (ms 0) k n) + 0) from nI_add _ 0]
    · simp only [b2i_t, if_false, if_true]
      rw [nI_1]
  · show f_X6_cutBy_L4 N (nI k) ms _ (fuel + 1) _ _ = _
    rw [f_X6_cutBy_L4, e0, if_pos (nI_le (Nat.le_refl n) (by omega))]
theorem cutters_c {cs ms : St} {N n w k : Nat} (hG : GR cs 0 (ms 0)) (hO : GO n w (ms 0)) (hN : 100 ≤ N) (hk : k < n) : f_X2_cuttersOf N cs (nI k) = some (nI (cuB (ms 0) k n)) := by
  have hn := hO.1
  have e0 : cs 13 0 = nI n := hG.1.trans hO.2.2.1
  unfold f_X2_cuttersOf
  refine loopF (fun fuel s i => f_X2_cuttersOf_L4 N (nI k) cs (fun a_6 _ => some a_6) fuel s i) (fun s => some s) n (fun i => nI (cuB (ms 0) k i)) (fun i fuel hi => ?_) (fun fuel => ?_) n 0 N (by omega) (by omega)
  · show f_X2_cuttersOf_L4 N (nI k) cs _ (fuel + 1) _ _ = f_X2_cuttersOf_L4 N (nI k) cs _ fuel (nI (if (cN (ms 0) i).testBit k then cuB (ms 0) k i ||| 2 ^ i else cuB (ms 0) k i)) _
    have e6 : cs 6 i = nI (cN (ms 0) i) := (hG.at 6 (by omega) (by omega)).trans (cN_eq _ _)
    rw [f_X2_cuttersOf_L4, e0, if_neg (nI_ge hi (by omega)), ck_nI (by omega) (by omega), bnd_s, isIn_bt _ (by omega), e6, nI_bt (by omega), nI_1]
    cases (cN (ms 0) i).testBit k
    · simp only [b2i_f, if_true]; rfl
    · simp only [b2i_t, if_false]
      rw [bnd_s, nI_bit (by omega), nI_or]; rfl
  · show f_X2_cuttersOf_L4 N (nI k) cs _ (fuel + 1) _ _ = _
    rw [f_X2_cuttersOf_L4, e0, if_pos (nI_le (Nat.le_refl n) (by omega))]
theorem idxF (k i : Nat) : ((2 : Int32) + (10 : Int32) * nI k) + nI i = nI (2 + 10 * k + i) := by
  rw [show (10 : Int32) * nI k = nI (10 * k) from pk_mul 10 k, show (2 : Int32) + nI (10 * k) = nI (2 + 10 * k) from nI_add 2 _, nI_add]
theorem s_of {SO : St → Prop} (hSO : SOk SO) {N : Nat} (hN : 100 ≤ N) : ∀ cs ms, Rel SO cs ms → ∀ (a1 a2 : Int32), StepI (Rel SO) (f_X5_of N cs a1 a2) (f_X6_of N ms a1 a2) := by
  intro cs ms hR a1 a2
  obtain ⟨hG, ⟨n, w, hO⟩, -⟩ := id hR
  have hn := hO.1
  unfold f_X5_of f_X6_of
  simp only [bnd_s]
  rcases gr_cases hG.1 hO.2.2.1 hn a1 with ⟨q1, q2⟩ | ⟨q1, q2, i, hi, rfl⟩
  · rw [q1, q2]; simp only [b2i_f, if_true]; exact fin_step hSO hR _
  · rw [q1, q2]; simp only [b2i_t, if_false]
    rw [ck_nI (by omega) (by omega)]
    have hfld : ∀ k, k < 6 → StepI (Rel SO) (some (cs k i, cs)) (ck 116 (((2 : Int32) + (10 : Int32) * nI k) + nI i) fun j_15 => some (ms 0 j_15, ms)) := by
      intro k hk
      rw [idxF, ck_nI (by omega) (by omega), hG.at k (by omega) (by omega)]
      exact ⟨_, _, _, rfl, rfl, hR⟩
    cases hw : f_X6_within a2 0 7
    · simp only [b2i_f, if_true]
      have hne : ∀ k, k < 8 → ¬ a2 = nI k := by
        intro k hk hq
        subst hq
        have : f_X6_within (nI k) 0 7 = true := w_t (nI_pos (by omega)) (show nI k ≤ nI 7 from nI_le (by omega) (by omega))
        rw [this] at hw; cases hw
      rw [if_neg (show ¬ a2 = (0 : Int32) from hne 0 (by omega)), if_neg (show ¬ a2 = (1 : Int32) from hne 1 (by omega)), if_neg (show ¬ a2 = (2 : Int32) from hne 2 (by omega)), if_neg (show ¬ a2 = (3 : Int32) from hne 3 (by omega)), if_neg (show ¬ a2 = (4 : Int32) from hne 4 (by omega)), if_neg (show ¬ a2 = (5 : Int32) from hne 5 (by omega)), if_neg (show ¬ a2 = (6 : Int32) from hne 6 (by omega)), if_neg (show ¬ a2 = (7 : Int32) from hne 7 (by omega))]
      exact fin_step hSO hR _
    · simp only [b2i_t, if_false]
      obtain ⟨k, hk, rfl⟩ := w_nI (m := 8) (by omega) (by decide) hw
      have hk8 : k = 0 ∨ k = 1 ∨ k = 2 ∨ k = 3 ∨ k = 4 ∨ k = 5 ∨ k = 6 ∨ k = 7 := by omega
      rcases hk8 with rfl | rfl | rfl | rfl | rfl | rfl | rfl | rfl
      · rw [if_neg (show ¬ (6 : Int32) ≤ nI 0 by decide), if_pos (show nI 0 = (0 : Int32) by decide)]
        exact hfld 0 (by omega)
      · rw [if_neg (show ¬ (6 : Int32) ≤ nI 1 by decide), if_neg (show ¬ nI 1 = (0 : Int32) by decide), if_pos (show nI 1 = (1 : Int32) by decide)]
        exact hfld 1 (by omega)
      · rw [if_neg (show ¬ (6 : Int32) ≤ nI 2 by decide), if_neg (show ¬ nI 2 = (0 : Int32) by decide), if_neg (show ¬ nI 2 = (1 : Int32) by decide), if_pos (show nI 2 = (2 : Int32) by decide)]
        exact hfld 2 (by omega)
      · rw [if_neg (show ¬ (6 : Int32) ≤ nI 3 by decide), if_neg (show ¬ nI 3 = (0 : Int32) by decide), if_neg (show ¬ nI 3 = (1 : Int32) by decide), if_neg (show ¬ nI 3 = (2 : Int32) by decide), if_pos (show nI 3 = (3 : Int32) by decide)]
        exact hfld 3 (by omega)
      · rw [if_neg (show ¬ (6 : Int32) ≤ nI 4 by decide), if_neg (show ¬ nI 4 = (0 : Int32) by decide), if_neg (show ¬ nI 4 = (1 : Int32) by decide), if_neg (show ¬ nI 4 = (2 : Int32) by decide), if_neg (show ¬ nI 4 = (3 : Int32) by decide), if_pos (show nI 4 = (4 : Int32) by decide)]
        exact hfld 4 (by omega)
      · rw [if_neg (show ¬ (6 : Int32) ≤ nI 5 by decide), if_neg (show ¬ nI 5 = (0 : Int32) by decide), if_neg (show ¬ nI 5 = (1 : Int32) by decide), if_neg (show ¬ nI 5 = (2 : Int32) by decide), if_neg (show ¬ nI 5 = (3 : Int32) by decide), if_neg (show ¬ nI 5 = (4 : Int32) by decide), if_pos (show nI 5 = (5 : Int32) by decide)]
        exact hfld 5 (by omega)
      · rw [if_pos (show (6 : Int32) ≤ nI 6 by decide), if_pos (show nI 6 = (6 : Int32) by decide), if_neg (show ¬ nI 6 = (0 : Int32) by decide), if_neg (show ¬ nI 6 = (1 : Int32) by decide), if_neg (show ¬ nI 6 = (2 : Int32) by decide), if_neg (show ¬ nI 6 = (3 : Int32) by decide), if_neg (show ¬ nI 6 = (4 : Int32) by decide), if_neg (show ¬ nI 6 = (5 : Int32) by decide), if_pos (show nI 6 = (6 : Int32) by decide), ck_62 (by omega) (by omega), cN_eq (ms 0) i, many_nI (by omega) (by have := hO.cN_lt' hi; omega), bd1_s, show cs 6 i = nI (cN (ms 0) i) from (hG.at 6 (by omega) (by omega)).trans (cN_eq _ _), bc_nI (by have := hO.cN_lt' hi; omega)]
        exact ⟨_, _, _, rfl, rfl, hR⟩
      · rw [if_pos (show (6 : Int32) ≤ nI 7 by decide), if_neg (show ¬ nI 7 = (6 : Int32) by decide), if_neg (show ¬ nI 7 = (0 : Int32) by decide), if_neg (show ¬ nI 7 = (1 : Int32) by decide), if_neg (show ¬ nI 7 = (2 : Int32) by decide), if_neg (show ¬ nI 7 = (3 : Int32) by decide), if_neg (show ¬ nI 7 = (4 : Int32) by decide), if_neg (show ¬ nI 7 = (5 : Int32) by decide), if_neg (show ¬ nI 7 = (6 : Int32) by decide), if_pos (show nI 7 = (7 : Int32) by decide), cutBy_m hO hN hi, cutters_c hG hO hN hi, bd1_s, bd1_s, bc_nI (by have := bs_lt' (fun j => (cN (ms 0) j).testBit i) hn; show bs _ n < 4096; omega)]
        exact ⟨_, _, _, rfl, rfl, hR⟩
theorem s_later {SO : St → Prop} (hSO : SOk SO) {N : Nat} (hN : 100 ≤ N) : ∀ cs ms, Rel SO cs ms → ∀ (a1 a2 : Int32), StepI (Rel SO) (f_X5_later N cs a1 a2) (f_X6_later N ms a1 a2) := by
  intro cs ms hR a1 a2
  obtain ⟨hG, ⟨n, w, hO⟩, -, -, -, hso⟩ := id hR
  have hn := hO.1
  unfold f_X5_later f_X6_later
  simp only [bnd_s]
  rcases gr_cases hG.1 hO.2.2.1 hn a1 with ⟨q1, q2⟩ | ⟨q1, q2, i, hi, rfl⟩
  · rw [q1, q2]; simp only [b2i_f, if_true]; exact fin_step hSO hR _
  · rw [q1, q2]; simp only [b2i_t, if_false]
    rcases gr_cases hG.1 hO.2.2.1 hn a2 with ⟨q1, q2⟩ | ⟨q1, q2, j, hj, rfl⟩
    · rw [q1, q2]; simp only [b2i_f, if_true]; exact fin_step hSO hR _
    · rw [q1, q2]; simp only [b2i_t, if_false]
      rw [below_m hO hN hi, earlier_c hG hO hN hi, bd1_s, bd2_s, isIn_bt _ (by omega), b_tst _ (by omega)]
      have hR' : Rel SO (stp cs (cs 6) n) ms := hR.scratch (fun c h _ => stp_ne _ _ _ h) (hSO _ _ (fun c h1 h2 => stp_ne _ _ _ (by omega)) hso) (fun _ _ => rfl) ⟨rfl, rfl⟩
      cases bt (nI (cl (cN (ms 0)) n (cN (ms 0) i))) j
      · simp only [b2i_f, if_true]
        exact ⟨_, _, _, rfl, rfl, hR'⟩
      · simp only [b2i_t, if_false]
        exact ⟨_, _, _, rfl, rfl, hR'⟩
