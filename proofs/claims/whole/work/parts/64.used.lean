/-! from when, till when a good is used -/
theorem bs_z {p : Nat → Bool} {i : Nat} (h : bs p i = 0) {g : Nat} (hg : g < i) : p g = false := by
  have := bs_bit p g i
  rw [h, Nat.zero_testBit, decide_eq_true hg] at this
  cases q : p g
  · rfl
  · rw [q] at this; cases this
theorem fo_z {op : Int32 → Int32 → Int32} {p : Nat → Bool} {f : Nat → Int32} {s : Int32} : ∀ i, (∀ g, g < i → p g = false) → fo op p f s i = s := by
  intro i
  induction i with
  | zero => intro _; rfl
  | succ i ih =>
    intro h
    rw [fo, h i (by omega)]
    exact ih (fun g hg => h g (by omega))
def hvB (a : Nat → Int32) (x : Nat) (g : Nat) : Bool := (gN a g).testBit x
theorem havers_c {cs ms : St} {N n w x : Nat} (hG : GR cs 0 (ms 0)) (hO : GO n w (ms 0)) (hN : 100 ≤ N) (hx : x < 12) : f_X2_havers N cs (nI x) = some (nI (bs (hvB (ms 0) x) n)) := by
  have hn := hO.1
  have e0 : cs 13 0 = nI n := hG.1.trans hO.2.2.1
  unfold f_X2_havers
  refine loopF (fun fuel s i => f_X2_havers_L4 N (nI x) cs (fun a_6 _ => some a_6) fuel s i) (fun s => some s) n (fun i => nI (bs (hvB (ms 0) x) i)) (fun i fuel hi => ?_) (fun fuel => ?_) n 0 N (by omega) (by omega)
  · show f_X2_havers_L4 N (nI x) cs _ (fuel + 1) _ _ = f_X2_havers_L4 N (nI x) cs _ fuel (nI (if hvB (ms 0) x i then bs (hvB (ms 0) x) i ||| 2 ^ i else bs (hvB (ms 0) x) i)) _
    have e3 : cs 3 i = nI (gN (ms 0) i) := (hG.at 3 (by omega) (by omega)).trans (gN_eq _ _)
    rw [f_X2_havers_L4, e0, if_neg (nI_ge hi (by omega)), ck_nI (by omega) (by omega), bnd_s, isIn_bt _ (by omega), e3, nI_bt (by omega), nI_1]
    show (if b2i (hvB (ms 0) x i) = 0 then _ else _) = _
    cases hvB (ms 0) x i
    · simp only [b2i_f, if_true]; rfl
    · simp only [b2i_t, if_false]
      rw [bnd_s, nI_bit (by omega), nI_or]; rfl
  · show f_X2_havers_L4 N (nI x) cs _ (fuel + 1) _ _ = _
    rw [f_X2_havers_L4, e0, if_pos (nI_le (Nat.le_refl n) (by omega))]
theorem has_m {ms : St} {n w g x : Nat} (hO : GO n w (ms 0)) (hg : g < n) (hx : x < 12) : f_X6_has ms (nI g) (nI x) = some (hvB (ms 0) x g) := by
  have hn := hO.1
  unfold f_X6_has
  rw [ck_32 (by omega) (by omega), b_tst _ (by omega)]
  simp only [b2i_1]
  show (if bt (ms 0 (32 + g)) x = true then some true else some false) = some (bt (ms 0 (32 + g)) x)
  cases bt (ms 0 (32 + g)) x <;> rfl
def usN (a : Nat → Int32) (n x : Nat) (up : Bool) : Nat → Int32 := fo (opS up) (hvB a x) (fun g => if up then laN a n g else eaN a n g) (if up then -5000 else 5000)
theorem least_c {cs ms : St} {N n w x : Nat} (hG : GR cs 0 (ms 0)) (hO : GO n w (ms 0)) (hN : 100 ≤ N) (hx : x < 12) : ∃ st', f_X2_leastEarliest N cs (nI (bs (hvB (ms 0) x) n)) = some (usN (ms 0) n x false n, st') ∧ E12 cs st' := by
  have hn := hO.1
  unfold f_X2_leastEarliest
  refine loopE (a := ms 0) (fun fuel s j st => f_X2_leastEarliest_L6 N (nI (bs (hvB (ms 0) x) n)) (fun a_8 _ st_10 => some (a_8, st_10)) fuel s j st) (fun s st => some (s, st)) n (fun j => usN (ms 0) n x false j) (fun j fuel st hj hG => ?_) (fun fuel st hG => ?_) n 0 N cs (by omega) (by omega) hG
  · have e1 : st 13 0 = nI n := hG.1.trans hO.2.2.1
    obtain ⟨s1, q1, E1⟩ := earliest_c hG hO hN hj
    show ∃ st', f_X2_leastEarliest_L6 N _ _ (fuel + 1) _ _ st = f_X2_leastEarliest_L6 N _ _ fuel (if hvB (ms 0) x j then imin (usN (ms 0) n x false j) (eaN (ms 0) n j) else usN (ms 0) n x false j) _ st' ∧ E12 st st'
    rw [f_X2_leastEarliest_L6, e1, if_neg (nI_ge hj (by omega)), bnd_s, isIn_bt _ (by omega), nI_bt (by omega), bs_bit, decide_eq_true hj, Bool.true_and, nI_1]
    cases hvB (ms 0) x j
    · simp only [b2i_f, if_true]; exact ⟨st, rfl, E12.rf st⟩
    · simp only [b2i_t, if_false]
      rw [q1, bd2_s, bnd_s]
      exact ⟨s1, rfl, E1⟩
  · have e1 : st 13 0 = nI n := hG.1.trans hO.2.2.1
    show f_X2_leastEarliest_L6 N _ _ (fuel + 1) _ _ st = _
    rw [f_X2_leastEarliest_L6, e1, if_pos (nI_le (Nat.le_refl n) (by omega))]
theorem great_c {cs ms : St} {N n w x : Nat} (hG : GR cs 0 (ms 0)) (hO : GO n w (ms 0)) (hN : 100 ≤ N) (hx : x < 12) : ∃ st', f_X2_greatestLatest N cs (nI (bs (hvB (ms 0) x) n)) = some (usN (ms 0) n x true n, st') ∧ E12 cs st' := by
  have hn := hO.1
  unfold f_X2_greatestLatest
  refine loopE (a := ms 0) (fun fuel s j st => f_X2_greatestLatest_L6 N (nI (bs (hvB (ms 0) x) n)) (fun a_8 _ st_10 => some (a_8, st_10)) fuel s j st) (fun s st => some (s, st)) n (fun j => usN (ms 0) n x true j) (fun j fuel st hj hG => ?_) (fun fuel st hG => ?_) n 0 N cs (by omega) (by omega) hG
  · have e1 : st 13 0 = nI n := hG.1.trans hO.2.2.1
    obtain ⟨s1, q1, E1⟩ := latest_c hG hO hN hj
    show ∃ st', f_X2_greatestLatest_L6 N _ _ (fuel + 1) _ _ st = f_X2_greatestLatest_L6 N _ _ fuel (if hvB (ms 0) x j then imax (usN (ms 0) n x true j) (laN (ms 0) n j) else usN (ms 0) n x true j) _ st' ∧ E12 st st'
    rw [f_X2_greatestLatest_L6, e1, if_neg (nI_ge hj (by omega)), bnd_s, isIn_bt _ (by omega), nI_bt (by omega), bs_bit, decide_eq_true hj, Bool.true_and, nI_1]
    cases hvB (ms 0) x j
    · simp only [b2i_f, if_true]; exact ⟨st, rfl, E12.rf st⟩
    · simp only [b2i_t, if_false]
      rw [q1, bd2_s, bnd_s]
      exact ⟨s1, rfl, E1⟩
  · have e1 : st 13 0 = nI n := hG.1.trans hO.2.2.1
    show f_X2_greatestLatest_L6 N _ _ (fuel + 1) _ _ st = _
    rw [f_X2_greatestLatest_L6, e1, if_pos (nI_le (Nat.le_refl n) (by omega))]
def usM (a : Nat → Int32) (n x : Nat) (up : Bool) (i : Nat) : Int32 × Int32 := if bs (hvB a x) i = 0 then (0, 0) else (usN a n x up i, 1)
theorem or_ne0 (t i : Nat) : ¬ t ||| 2 ^ i = 0 := by
  intro h
  have : (t ||| 2 ^ i).testBit i = true := by rw [Nat.testBit_or, Nat.testBit_two_pow, decide_eq_true rfl, Bool.or_true]
  rw [h, Nat.zero_testBit] at this
  cases this
theorem used_m {ms : St} {N n w x : Nat} {up : Bool} (K : Int32 → Int32 → Int32 → Option (Int32 × St)) (hO : GO n w (ms 0)) (hN : 100 ≤ N) (hx : x < 12) : f_X6_used_L22 N (nI x) up ms K N 0 0 0 = K (usM (ms 0) n x up n).1 (usM (ms 0) n x up n).2 (nI n) := by
  have hn := hO.1
  have e0 : ms 0 0 = nI n := hO.2.2.1
  refine loopF (fun fuel (s : Int32 × Int32) j => f_X6_used_L22 N (nI x) up ms K fuel s.1 s.2 j) (fun s => K s.1 s.2 (nI n)) n (fun j => usM (ms 0) n x up j) (fun j fuel hj => ?_) (fun fuel => ?_) n 0 N (by omega) (by omega)
  · show f_X6_used_L22 N (nI x) up ms K (fuel + 1) _ _ _ = f_X6_used_L22 N (nI x) up ms K fuel _ _ _
    rw [f_X6_used_L22, e0, if_neg (nI_ge hj (by omega)), has_m hO hj hx, bd1_s, nI_1]
    cases hp : hvB (ms 0) x j
    · simp only [b2i_f, if_true]
      have e1 : usM (ms 0) n x up (j + 1) = usM (ms 0) n x up j := by
        unfold usM usN
        rw [show bs (hvB (ms 0) x) (j + 1) = bs (hvB (ms 0) x) j by rw [bs, hp]; rfl, fo, hp]; rfl
      rw [e1]
    · simp only [b2i_t, if_false]
      have y : f_X6_yearOf N ms (nI j) up = some (if up then laN (ms 0) n j else eaN (ms 0) n j) := by
        cases up
        · exact year_m0 hO hN hj
        · exact year_m1 hO hN hj
      rw [y, bd1_s]
      have e1 : usM (ms 0) n x up (j + 1) = (opS up (usN (ms 0) n x up j) (if up then laN (ms 0) n j else eaN (ms 0) n j), 1) := by
        unfold usM
        rw [if_neg (by rw [bs, hp]; exact or_ne0 _ _)]
        unfold usN
        rw [fo, hp]; rfl
      rw [e1]
      by_cases hz : bs (hvB (ms 0) x) j = 0
      · have e2 : usM (ms 0) n x up j = (0, 0) := by unfold usM; rw [if_pos hz]
        rw [e2, if_pos rfl]
        have e3 : usN (ms 0) n x up j = if up then -5000 else 5000 := fo_z j (fun g hg => bs_z hz hg)
        rw [e3]
        cases up
        · show _ = f_X6_used_L22 N (nI x) false ms K fuel (imin 5000 (eaN (ms 0) n j)) 1 (nI (j + 1))
          have hr := ea_rng hO hj
          have : imin 5000 (eaN (ms 0) n j) = eaN (ms 0) n j := by
            unfold imin
            split
            · rfl
            · rename_i h
              rw [i32_lt, show (5000 : Int32).toInt = 5000 by decide] at h
              apply Int32.toInt_inj.mp
              rw [show (5000 : Int32).toInt = 5000 by decide]
              omega
          rw [this]; rfl
        · show _ = f_X6_used_L22 N (nI x) true ms K fuel (imax (-5000) (laN (ms 0) n j)) 1 (nI (j + 1))
          have hr := la_rng hO hj
          have : imax (-5000) (laN (ms 0) n j) = laN (ms 0) n j := by
            unfold imax
            split
            · rfl
            · rename_i h
              rw [i32_lt, show (-5000 : Int32).toInt = -5000 by decide] at h
              apply Int32.toInt_inj.mp
              rw [show (-5000 : Int32).toInt = -5000 by decide]
              omega
          rw [this]; rfl
      · have e2 : usM (ms 0) n x up j = (usN (ms 0) n x up j, 1) := by unfold usM; rw [if_neg hz]
        rw [e2, if_neg (show ¬ (1 : Int32) = 0 by decide)]
        cases up
        · simp only [b2i_f, if_true]
          show (if usN (ms 0) n x false j ≤ eaN (ms 0) n j then f_X6_used_L22 N (nI x) false ms K fuel (usN (ms 0) n x false j) 1 (nI (j + 1)) else f_X6_used_L22 N (nI x) false ms K fuel (eaN (ms 0) n j) 1 (nI (j + 1))) = f_X6_used_L22 N (nI x) false ms K fuel (imin (usN (ms 0) n x false j) (eaN (ms 0) n j)) 1 (nI (j + 1))
          unfold imin
          by_cases h : usN (ms 0) n x false j ≤ eaN (ms 0) n j
          · rw [if_pos h, if_neg (by rw [i32_le] at h; rw [i32_lt]; omega)]
          · rw [if_neg h, if_pos (by rw [i32_le] at h; rw [i32_lt]; omega)]
        · simp only [b2i_t, if_false]
          show (if laN (ms 0) n j ≤ usN (ms 0) n x true j then f_X6_used_L22 N (nI x) true ms K fuel (usN (ms 0) n x true j) 1 (nI (j + 1)) else f_X6_used_L22 N (nI x) true ms K fuel (laN (ms 0) n j) 1 (nI (j + 1))) = f_X6_used_L22 N (nI x) true ms K fuel (imax (usN (ms 0) n x true j) (laN (ms 0) n j)) 1 (nI (j + 1))
          unfold imax
          by_cases h : laN (ms 0) n j ≤ usN (ms 0) n x true j
          · rw [if_pos h, if_neg (by rw [i32_le] at h; rw [i32_lt]; omega)]
          · rw [if_neg h, if_pos (by rw [i32_le] at h; rw [i32_lt]; omega)]
  · show f_X6_used_L22 N (nI x) up ms K (fuel + 1) _ _ _ = _
    rw [f_X6_used_L22, e0, if_pos (nI_le (Nat.le_refl n) (by omega))]
theorem isGood_cases (x : Int32) : f_X6_isGood x = false ∨ (f_X6_isGood x = true ∧ ∃ q, q < 12 ∧ x = nI q) := by
  cases h : f_X6_isGood x
  · exact Or.inl rfl
  · refine Or.inr ⟨rfl, ?_⟩
    exact w_nI (m := 12) (hi := 11) (by omega) (by decide) h
theorem s_used {SO : St → Prop} (hSO : SOk SO) {N : Nat} (hN : 100 ≤ N) : ∀ cs ms, Rel SO cs ms → ∀ (a1 : Int32) (a2 : Bool), StepI (Rel SO) (f_X5_used N cs a1 a2) (f_X6_used N ms a1 a2) := by
  intro cs ms hR a1 a2
  obtain ⟨hG, ⟨n, w, hO⟩, -⟩ := id hR
  have hn := hO.1
  unfold f_X5_used f_X6_used
  simp only [bnd_s, isGood_w]
  rcases isGood_cases a1 with h1 | ⟨h1, x, hx, rfl⟩
  · rw [h1]; simp only [b2i_f, if_true]; exact fin_step hSO hR _
  · rw [h1]; simp only [b2i_t, if_false]
    rw [havers_c hG hO hN hx, bd1_s, used_m _ hO hN hx]
    have hlt := bs_lt' (hvB (ms 0) x) hn
    by_cases hz : bs (hvB (ms 0) x) n = 0
    · have e2 : usM (ms 0) n x a2 n = (0, 0) := by unfold usM; rw [if_pos hz]
      rw [e2, hz, if_pos (show nI 0 = (0 : Int32) from rfl), if_pos (show ((0, 0) : Int32 × Int32).2 = 0 from rfl)]
      exact fin_step hSO hR _
    · have e2 : usM (ms 0) n x a2 n = (usN (ms 0) n x a2 n, 1) := by unfold usM; rw [if_neg hz]
      rw [e2, if_neg (show ¬ nI (bs (hvB (ms 0) x) n) = (0 : Int32) from nI_ne0 (by omega) (by omega)), if_neg (show ¬ ((usN (ms 0) n x a2 n, 1) : Int32 × Int32).2 = 0 from (by decide : ¬ (1 : Int32) = 0))]
      cases a2
      · simp only [b2i_f, if_true]
        obtain ⟨st', q, hE⟩ := least_c hG hO hN hx
        rw [q, bd2_s]
        exact ⟨_, _, _, rfl, rfl, hE.rel hSO hR⟩
      · simp only [b2i_t, if_false]
        obtain ⟨st', q, hE⟩ := great_c hG hO hN hx
        rw [q, bd2_s]
        exact ⟨_, _, _, rfl, rfl, hE.rel hSO hR⟩
/-! the families -/
def nrB (a : Nat → Int32) (x : Int32) (g h : Nat) : Bool := if x < iabs (a (12 + g) - a (12 + h)) then false else if x < iabs (a (22 + g) - a (22 + h)) then false else true
def nrF (a : Nat → Int32) (x : Int32) (n : Nat) (g : Nat) : Nat := bs (nrB a x g) n
theorem near_cc {cs ms : St} {N n w g : Nat} {x : Int32} (hG : GR cs 0 (ms 0)) (hO : GO n w (ms 0)) (hN : 100 ≤ N) (hg : g < n) : f_X2_neighboursOf N cs (nI g) x = some (nI (nrF (ms 0) x n g)) := by
  have hn := hO.1
  have e0 : cs 13 0 = nI n := hG.1.trans hO.2.2.1
  unfold f_X2_neighboursOf
  refine loopF (fun fuel s i => f_X2_neighboursOf_L5 N (nI g) x cs (fun a_7 _ => some a_7) fuel s i) (fun s => some s) n (fun i => nI (bs (nrB (ms 0) x g) i)) (fun i fuel hi => ?_) (fun fuel => ?_) n 0 N (by omega) (by omega)
  · show f_X2_neighboursOf_L5 N (nI g) x cs _ (fuel + 1) _ _ = f_X2_neighboursOf_L5 N (nI g) x cs _ fuel (nI (if nrB (ms 0) x g i then bs (nrB (ms 0) x g) i ||| 2 ^ i else bs (nrB (ms 0) x g) i)) _
    have hw : f_X1_isWithin cs g x i = nrB (ms 0) x g i := by
      unfold f_X1_isWithin nrB
      rw [show cs 1 g = ms 0 (12 + g) from hG.at 1 (by omega) (by omega), show cs 1 i = ms 0 (12 + i) from hG.at 1 (by omega) (by omega), show cs 2 g = ms 0 (22 + g) from hG.at 2 (by omega) (by omega), show cs 2 i = ms 0 (22 + i) from hG.at 2 (by omega) (by omega)]
    rw [f_X2_neighboursOf_L5, e0, if_neg (nI_ge hi (by omega)), ck_nI (by omega) (by omega), ck_nI (by omega) (by omega), bnd_s, hw, nI_1]
    cases nrB (ms 0) x g i
    · simp only [b2i_f, if_true]; rfl
    · simp only [b2i_t, if_false]
      rw [bnd_s, nI_bit (by omega), nI_or]; rfl
  · show f_X2_neighboursOf_L5 N (nI g) x cs _ (fuel + 1) _ _ = _
    rw [f_X2_neighboursOf_L5, e0, if_pos (nI_le (Nat.le_refl n) (by omega))]
def lb (S : Nat) : Nat → Nat → Nat
  | 0, j => j
  | d + 1, j => if S.testBit j then j else lb S d (j + 1)
def faS (a : Nat → Int32) (x : Int32) (n i : Nat) : Nat := cl (nrF a x n) n (2 ^ i)
def faN (a : Nat → Int32) (x : Int32) (n i : Nat) : Nat := lb (faS a x n i) i 0
theorem lb_le (S : Nat) : ∀ d j, lb S d j ≤ j + d := by
  intro d
  induction d with
  | zero => intro j; exact Nat.le_refl j
  | succ d ih =>
    intro j
    unfold lb
    split
    · omega
    · have := ih (j + 1); omega
theorem p2_lt {i n : Nat} (h : i < n) : 2 ^ i < 2 ^ n := Nat.pow_lt_pow_right (by omega) h
theorem fam_c {cs ms : St} {N n w i : Nat} {x : Int32} (hG : GR cs 0 (ms 0)) (hO : GO n w (ms 0)) (hN : 100 ≤ N) (hi : i < n) : ∃ st', f_X2_familyOf N cs (nI i) x = some (nI (faN (ms 0) x n i), st') ∧ E12 cs st' := by
  have hn := hO.1
  have e0 : cs 13 0 = nI n := hG.1.trans hO.2.2.1
  have hel : ∀ g, g < n → nrF (ms 0) x n g < 2 ^ n := fun g hg => bs_lt _ n
  refine ⟨stp cs (fun g => nI (nrF (ms 0) x n g)) n, ?_, stp_E _ _ _⟩
  unfold f_X2_familyOf
  have h := loopF (fun fuel s j => f_X2_familyOf_L2 N (nI i) x (fun a_5 st_6 => bd1 (f_X2_reachedFrom N st_6 ((1 : Int32) <<< (nI i &&& 31))) fun r_8 => f_X2_familyOf_L39 N (nI i) r_8 st_6 (fun a_12 => some (nI i, st_6)) N 0) fuel j s) (fun s => bd1 (f_X2_reachedFrom N s ((1 : Int32) <<< (nI i &&& 31))) fun r_8 => f_X2_familyOf_L39 N (nI i) r_8 s (fun a_12 => some (nI i, s)) N 0) n (fun j => stp cs (fun g => nI (nrF (ms 0) x n g)) j) (fun j fuel hj => ?_) (fun fuel => ?_) n 0 N (by omega) (by omega)
  · simp only [stp_0] at h
    refine Eq.trans h ?_
    generalize hst : stp cs (fun g => nI (nrF (ms 0) x n g)) n = st
    rw [nI_bit (by omega), reach_c (nrF (ms 0) x n) hN hn (by rw [← hst, stp_ne _ _ _ (by omega)]; exact e0) (fun g hg => by rw [← hst]; exact stp_at _ _ hg) (p2_lt hi) hel, bd1_s]
    have key : ∀ d j fuel, j + d = i → d < fuel → f_X2_familyOf_L39 N (nI i) (nI (faS (ms 0) x n i)) st (fun a_12 => some (nI i, st)) fuel (nI j) = some (nI (lb (faS (ms 0) x n i) d j), st) := by
      intro d
      induction d with
      | zero =>
        intro j fuel h1 h2
        obtain ⟨fuel, rfl⟩ : ∃ f, fuel = f + 1 := ⟨fuel - 1, by omega⟩
        have : j = i := by omega
        subst this
        rw [f_X2_familyOf_L39, if_pos (nI_le (Nat.le_refl j) (by omega))]
        rfl
      | succ d ih =>
        intro j fuel h1 h2
        obtain ⟨fuel, rfl⟩ : ∃ f, fuel = f + 1 := ⟨fuel - 1, by omega⟩
        rw [f_X2_familyOf_L39, if_neg (nI_ge (by omega) (by omega)), bnd_s, isIn_bt _ (by omega), nI_bt (by omega), lb, nI_1]
        cases (faS (ms 0) x n i).testBit j
        · simp only [b2i_f, if_true]
          exact ih (j + 1) fuel (by omega) (by omega)
        · simp only [b2i_t, if_false]; rfl
    exact key i 0 N (by omega) (by omega)
  · show f_X2_familyOf_L2 N (nI i) x _ (fuel + 1) (nI j) _ = _
    have hG' : GR (stp cs (fun g => nI (nrF (ms 0) x n g)) j) 0 (ms 0) := (stp_E cs _ j).gr hG
    have q := stp_s cs (fun g => nI (nrF (ms 0) x n g)) j
    have q' : sU (stp cs (fun g => nI (nrF (ms 0) x n g)) j) 12 j (nI (nrF (ms 0) x n j)) = stp cs (fun g => nI (nrF (ms 0) x n g)) (j + 1) := q
    rw [f_X2_familyOf_L2, stp_ne _ _ _ (show ¬ 13 = 12 by omega), e0, if_neg (nI_ge hj (by omega)), near_cc hG' hO hN hj, bd1_s, sto_nI (by omega) (by omega), nI_1, q']
  · show f_X2_familyOf_L2 N (nI i) x _ (fuel + 1) (nI n) _ = _
    rw [f_X2_familyOf_L2, stp_ne _ _ _ (show ¬ 13 = 12 by omega), e0, if_pos (nI_le (Nat.le_refl n) (by omega))]
theorem or_0 (s : Nat) : nI s ||| (0 : Int32) = nI s := by
  rw [show nI s ||| (0 : Int32) = nI (s ||| 0) from nI_or s 0, Nat.or_zero]
theorem fam_in {ms : St} {N n w s g : Nat} {x x4 : Int32} (K : Int32 → Int32 → Option Int32) (hO : GO n w (ms 0)) (hN : 100 ≤ N) (hg : g < n) : f_X6_familyOf_L33 N x x4 (nI g) ms K N (nI s) 0 = K (nI (if s.testBit g then s ||| nrF (ms 0) x n g else s)) (nI n) := by
  have hn := hO.1
  have e0 : ms 0 0 = nI n := hO.2.2.1
  have h := loopF (fun fuel s i => f_X6_familyOf_L33 N x x4 (nI g) ms K fuel s i) (fun s => K s (nI n)) n (fun i => nI (if s.testBit g then s ||| bs (nrB (ms 0) x g) i else s)) (fun i fuel hi => ?_) (fun fuel => ?_) n 0 N (by omega) (by omega)
  · have e : (if s.testBit g then s ||| bs (nrB (ms 0) x g) 0 else s) = s := by
      show (if s.testBit g then s ||| 0 else s) = s
      rw [Nat.or_zero, ite_self]
    rw [e] at h
    exact h
  · show f_X6_familyOf_L33 N x x4 (nI g) ms K (fuel + 1) _ _ = f_X6_familyOf_L33 N x x4 (nI g) ms K fuel (nI (if s.testBit g then s ||| (if nrB (ms 0) x g i then bs (nrB (ms 0) x g) i ||| 2 ^ i else bs (nrB (ms 0) x g) i) else s)) _
    rw [f_X6_familyOf_L33, e0, if_neg (nI_ge hi (by omega)), ck_12 (by omega) (by omega), ck_12 (by omega) (by omega), ck_22 (by omega) (by omega), ck_22 (by omega) (by omega), b_tst _ (by omega), nI_bt (by omega), nI_1]
    simp only [bnd_s, or_0, b2i_1]
    unfold nrB
    by_cases c1 : x < iabs (ms 0 (12 + g) - ms 0 (12 + i))
    · rw [if_pos c1, if_pos c1]; rfl
    · rw [if_neg c1, if_neg c1]
      by_cases c2 : x < iabs (ms 0 (22 + g) - ms 0 (22 + i))
      · rw [if_pos c2, if_pos c2]; rfl
      · rw [if_neg c2, if_neg c2, if_pos (show true = true from rfl)]
        cases hs : s.testBit g
        · simp only [Bool.false_eq_true, if_false, hs]
        · simp only [if_true, Nat.testBit_or, hs, Bool.true_or]
          rw [nI_bit (by omega), nI_or, Nat.or_assoc]
  · show f_X6_familyOf_L33 N x x4 (nI g) ms K (fuel + 1) _ _ = _
    rw [f_X6_familyOf_L33, e0, if_pos (nI_le (Nat.le_refl n) (by omega))]
theorem fam_pass {ms : St} {N n w s : Nat} {x x4 : Int32} (K : Int32 → Int32 → Option Int32) (hO : GO n w (ms 0)) (hN : 100 ≤ N) : f_X6_familyOf_L19 N x x4 ms K N (nI s) 0 = K (nI (rp (nrF (ms 0) x n) s n)) (nI n) := by
  have hn := hO.1
  have e0 : ms 0 0 = nI n := hO.2.2.1
  refine loopF (fun fuel s i => f_X6_familyOf_L19 N x x4 ms K fuel s i) (fun s => K s (nI n)) n (fun i => nI (rp (nrF (ms 0) x n) s i)) (fun i fuel hi => ?_) (fun fuel => ?_) n 0 N (by omega) (by omega)
  · show f_X6_familyOf_L19 N x x4 ms K (fuel + 1) _ _ = f_X6_familyOf_L19 N x x4 ms K fuel (nI (if (rp (nrF (ms 0) x n) s i).testBit i then rp (nrF (ms 0) x n) s i ||| nrF (ms 0) x n i else rp (nrF (ms 0) x n) s i)) _
    rw [f_X6_familyOf_L19, e0, if_neg (nI_ge hi (by omega)), fam_in _ hO hN hi, nI_1]
  · show f_X6_familyOf_L19 N x x4 ms K (fuel + 1) _ _ = _
    rw [f_X6_familyOf_L19, e0, if_pos (nI_le (Nat.le_refl n) (by omega))]
theorem fam_m {ms : St} {N n w i : Nat} {x : Int32} (hO : GO n w (ms 0)) (hN : 100 ≤ N) (hi : i < n) : f_X6_familyOf N ms (nI i) x = some (nI (faS (ms 0) x n i)) := by
  have hn := hO.1
  have hs : 2 ^ i < 2 ^ n := p2_lt hi
  have hel : ∀ g, g < n → nrF (ms 0) x n g < 2 ^ n := fun g hg => bs_lt _ n
  unfold f_X6_familyOf faS
  rw [bnd_s, nI_bit (by omega)]
  have hne : ¬ 2 ^ i = 0 := by have := Nat.two_pow_pos i; omega
  generalize 2 ^ i = s at hs hne
  generalize hE : nrF (ms 0) x n = e at hel
  have fin : ∀ r, itp e n s (r + 1) = itp e n s r → r ≤ n → itp e n s (r + 1) = cl e n s := by
    intro r h hr
    have hc := itp_const h (n - r)
    rw [show r + (n - r) = n by omega] at hc
    unfold cl
    rw [h, hc]
  have key : ∀ d r fuel, r + d = n → d + 1 < fuel → f_X6_familyOf_L7 N x ms (fun a_23 _ => some a_23) fuel (nI (itp e n s (r + 1))) (nI (itp e n s r)) = some (nI (cl e n s)) := by
    intro d
    induction d with
    | zero =>
      intro r fuel h1 h2
      obtain ⟨fuel, rfl⟩ : ∃ f, fuel = f + 1 := ⟨fuel - 1, by omega⟩
      have : r = n := by omega
      subst this
      have h := cl_fix hs hel
      rw [f_X6_familyOf_L7, if_pos (by rw [h]), fin _ h (Nat.le_refl _)]
    | succ d ih =>
      intro r fuel h1 h2
      obtain ⟨fuel, rfl⟩ : ∃ f, fuel = f + 1 := ⟨fuel - 1, by omega⟩
      rw [f_X6_familyOf_L7]
      by_cases h : itp e n s (r + 1) = itp e n s r
      · rw [if_pos (by rw [h]), fin _ h (by omega)]
      · rw [if_neg (fun q => h (nI_inj (p2_31 hn (itp_lt hs hel _)) (p2_31 hn (itp_lt hs hel _)) q)), fam_pass _ hO hN, hE]
        exact ih (r + 1) fuel (by omega) (by omega)
  obtain ⟨N', rfl⟩ : ∃ f, N = f + 1 := ⟨N - 1, by omega⟩
  rw [f_X6_familyOf_L7, if_neg (show ¬ nI s = (0 : Int32) from fun q => hne (nI_inj (b := 0) (p2_31 hn hs) (by omega) q)), fam_pass _ hO hN, hE]
  exact key n 0 N' (by omega) (by omega)
theorem least_m {ms : St} {N n i S : Nat} (hn : n ≤ 10) (hN : 100 ≤ N) (hi : i < n) (hS : S.testBit i = true) : f_X6_leastOf N ms (nI S) = some (nI (lb S i 0)) := by
  unfold f_X6_leastOf
  have key : ∀ d j fuel, j + d = i → d < fuel → f_X6_leastOf_L2 N (nI S) ms (fun a_2 => some a_2) fuel (nI j) = some (nI (lb S d j)) := by
    intro d
    induction d with
    | zero =>
      intro j fuel h1 h2
      obtain ⟨fuel, rfl⟩ : ∃ f, fuel = f + 1 := ⟨fuel - 1, by omega⟩
      have : j = i := by omega
      subst this
      rw [f_X6_leastOf_L2, b_tst _ (by omega), nI_bt (by omega), hS, if_neg (show ¬ b2i true = (0 : Int32) by decide)]
      rfl
    | succ d ih =>
      intro j fuel h1 h2
      obtain ⟨fuel, rfl⟩ : ∃ f, fuel = f + 1 := ⟨fuel - 1, by omega⟩
      rw [f_X6_leastOf_L2, b_tst _ (by omega), nI_bt (by omega), lb, nI_1]
      cases S.testBit j
      · simp only [b2i_f, if_true]
        exact ih (j + 1) fuel (by omega) (by omega)
      · simp only [b2i_t, if_false]; rfl
  exact key i 0 N (by omega) (by omega)
theorem faS_i {a : Nat → Int32} {x : Int32} {n i : Nat} : (faS a x n i).testBit i = true := cl_ge _ _ _ i (by rw [Nat.testBit_two_pow, decide_eq_true rfl])
theorem s_family {SO : St → Prop} (hSO : SOk SO) {N : Nat} (hN : 100 ≤ N) : ∀ cs ms, Rel SO cs ms → ∀ (a1 a2 : Int32), StepI (Rel SO) (f_X5_family N cs a1 a2) (f_X6_family N ms a1 a2) := by
  intro cs ms hR a1 a2
  obtain ⟨hG, ⟨n, w, hO⟩, -⟩ := id hR
  have hn := hO.1
  unfold f_X5_family f_X6_family
  simp only [bnd_s, isDist_w]
  rcases gr_cases hG.1 hO.2.2.1 hn a1 with ⟨q1, q2⟩ | ⟨q1, q2, i, hi, rfl⟩
  · rw [q1, q2]; simp only [b2i_f, if_true]; exact fin_step hSO hR _
  · rw [q1, q2]; simp only [b2i_t, if_false]
    cases f_X6_within a2 0 99
    · simp only [b2i_f, if_true]; exact fin_step hSO hR _
    · simp only [b2i_t, if_false]
      obtain ⟨st', q, hE⟩ := fam_c (x := a2) hG hO hN hi
      rw [q, bd2_s, fam_m hO hN hi, bd1_s, least_m hn hN hi faS_i, bd1_s]
      exact ⟨_, _, _, rfl, rfl, hE.rel hSO hR⟩
theorem s_families {SO : St → Prop} (hSO : SOk SO) {N : Nat} (hN : 100 ≤ N) : ∀ cs ms, Rel SO cs ms → ∀ (a1 : Int32), StepI (Rel SO) (f_X5_families N cs a1) (f_X6_families N ms a1) := by
  intro cs ms hR a1
  obtain ⟨hG, ⟨n, w, hO⟩, -⟩ := id hR
  have hn := hO.1
  have e0 : ms 0 0 = nI n := hO.2.2.1
  unfold f_X5_families f_X6_families
  simp only [bnd_s, isDist_w]
  cases f_X6_within a1 0 99
  · simp only [b2i_f, if_true]; exact fin_step hSO hR _
  · simp only [b2i_t, if_false]
    have hq : ∀ j, j < n → (nI (faN (ms 0) a1 n j) = nI j ↔ faN (ms 0) a1 n j = j) := fun j hj => by
      have : faN (ms 0) a1 n j ≤ 0 + j := lb_le _ _ _
      exact ⟨fun q => nI_inj (by omega) (by omega) q, fun q => by rw [q]⟩
    have hm : f_X6_families_L21 N a1 ms (fun a_11 _ => some (a_11, ms)) N 0 0 = some (cntI (fun g => decide (faN (ms 0) a1 n g = g)) n, ms) := by
      refine loopF (fun fuel s j => f_X6_families_L21 N a1 ms (fun a_11 _ => some (a_11, ms)) fuel s j) (fun s => some (s, ms)) n (fun j => cntI (fun g => decide (faN (ms 0) a1 n g = g)) j) (fun j fuel hj => ?_) (fun fuel => ?_) n 0 N (by omega) (by omega)
      · show f_X6_families_L21 N a1 ms _ (fuel + 1) _ _ = f_X6_families_L21 N a1 ms _ fuel (if decide (faN (ms 0) a1 n j = j) then cntI (fun g => decide (faN (ms 0) a1 n g = g)) j + 1 else cntI (fun g => decide (faN (ms 0) a1 n g = g)) j) _
        rw [f_X6_families_L21, e0, if_neg (nI_ge hj (by omega)), fam_m hO hN hj, bd1_s, least_m hn hN hj faS_i, bd1_s, nI_1]
        simp only [bnd_s, add_z]
        show (if nI (faN (ms 0) a1 n j) = nI j then _ else _) = _
        by_cases h : faN (ms 0) a1 n j = j
        · rw [if_pos ((hq j hj).mpr h), decide_eq_true h]; rfl
        · rw [if_neg (fun z => h ((hq j hj).mp z)), decide_eq_false h]; rfl
      · show f_X6_families_L21 N a1 ms _ (fuel + 1) _ _ = _
        rw [f_X6_families_L21, e0, if_pos (nI_le (Nat.le_refl n) (by omega))]
    obtain ⟨st', hc, hE⟩ := loopE (a := ms 0) (fun fuel s j st => f_X5_families_L18 N a1 (fun a_8 _ st_10 => some (a_8, st_10)) fuel s j st) (fun s st => some (s, st)) n (fun j => cntI (fun g => decide (faN (ms 0) a1 n g = g)) j) (fun j fuel st hj hG => by
      have e1 : st 13 0 = nI n := hG.1.trans e0
      obtain ⟨s1, q1, E1⟩ := fam_c (x := a1) hG hO hN hj
      show ∃ st', f_X5_families_L18 N a1 _ (fuel + 1) _ _ st = f_X5_families_L18 N a1 _ fuel (if decide (faN (ms 0) a1 n j = j) then cntI (fun g => decide (faN (ms 0) a1 n g = g)) j + 1 else cntI (fun g => decide (faN (ms 0) a1 n g = g)) j) _ st' ∧ E12 st st'
      rw [f_X5_families_L18, e1, if_neg (nI_ge hj (by omega)), q1, bd2_s, nI_1]
      by_cases h : faN (ms 0) a1 n j = j
      · rw [if_pos ((hq j hj).mpr h), decide_eq_true h]; exact ⟨s1, rfl, E1⟩
      · rw [if_neg (fun z => h ((hq j hj).mp z)), decide_eq_false h]; exact ⟨s1, rfl, E1⟩) (fun fuel st hG => by
      have e1 : st 13 0 = nI n := hG.1.trans e0
      show f_X5_families_L18 N a1 _ (fuel + 1) _ _ st = _
      rw [f_X5_families_L18, e1, if_pos (nI_le (Nat.le_refl n) (by omega))]) n 0 N cs (by omega) (by omega) hG
    refine ⟨_, st', ms, hc, hm, hE.rel hSO hR⟩
