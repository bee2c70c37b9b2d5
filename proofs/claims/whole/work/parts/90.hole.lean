/-! holes, good -/
theorem SOK_PR {st : St} {n : Nat} (h : SOK st n) : PR (dR st) n := by
  obtain ⟨-, -, -, hR⟩ := h
  refine ⟨fun j hj => (hR j hj).1, fun i j hi hj e => ?_⟩
  rcases Nat.lt_trichotomy i j with q | q | q
  · have z := may_no (hR j hj).2.1
    rw [(rs_bit (dR st) (dR st j) j).mpr ⟨i, q, e⟩] at z; cases z
  · exact q
  · have z := may_no (hR i hi).2.1
    rw [(rs_bit (dR st) (dR st i) i).mpr ⟨j, q, e.symm⟩] at z; cases z
theorem and_4095 {t : Nat} (h : t < 4096) : t &&& 4095 = t := bits_ext (fun b => by rw [Nat.testBit_and]; exact bits_4095 h b)
theorem and_bit (t x : Nat) : t &&& 2 ^ x = if t.testBit x then 2 ^ x else 0 := by
  apply bits_ext
  intro b
  rw [Nat.testBit_and, Nat.testBit_two_pow]
  by_cases q : x = b
  · subst q
    rw [decide_eq_true rfl, Bool.and_true]
    cases h : t.testBit x
    · simp only [Bool.false_eq_true, if_false, Nat.zero_testBit]
    · simp only [if_true, Nat.testBit_two_pow, decide_true]
  · rw [decide_eq_false q, Bool.and_false]
    split
    · rw [Nat.testBit_two_pow, decide_eq_false q]
    · rw [Nat.zero_testBit]
theorem pc_bit : ∀ x, x < 12 → pc (2 ^ x) = 1 := by decide
theorem p2_4096 {x : Nat} (h : x < 12) : 2 ^ x < 4096 := by
  show 2 ^ x < 2 ^ 12
  exact p2_lt h
theorem hc_one {a : Nat → Int32} {g t x : Nat} (hx : x < 12) : hcT a g (t &&& 2 ^ x) = if (t.testBit x && (lkN a g).testBit x) then 1 else 0 := by
  have hl : t &&& 2 ^ x < 4096 := Nat.lt_of_le_of_lt Nat.and_le_right (p2_4096 hx)
  have e : 2 ^ x &&& lkN a g = if (lkN a g).testBit x then 2 ^ x else 0 := by rw [Nat.and_comm]; exact and_bit _ _
  have e1 : hcT a g (t &&& 2 ^ x) = pc ((t &&& 2 ^ x) &&& lkN a g) := by
    have z := lk_hc (a := a) (g := g) hl
    rw [and_4095 hl] at z
    exact z.symm
  rw [e1, and_bit t x]
  cases t.testBit x
  · simp only [Bool.false_eq_true, if_false, Nat.zero_and, Bool.false_and]; rfl
  · simp only [if_true, Bool.true_and, e]
    cases (lkN a g).testBit x
    · simp only [Bool.false_eq_true, if_false]; decide
    · exact pc_bit x hx
def cnT (p : Nat → Bool) : Nat → Nat
  | 0 => 0
  | i + 1 => cnT p i + (if p i then 1 else 0)
theorem cnT_z {p : Nat → Bool} {k : Nat} : ∀ i, k ≤ i → (∀ j, k ≤ j → j < i → p j = false) → cnT p i = cnT p k := by
  intro i
  induction i with
  | zero => intro hk _; have : k = 0 := by omega
            rw [this]
  | succ i ih =>
    intro hk h
    by_cases q : k = i + 1
    · rw [q]
    · rw [cnT, h i (by omega) (by omega), ih (by omega) (fun j h1 h2 => h j h1 (by omega))]
      rfl
def hoP (a : Nat → Int32) (n : Nat) (r : Nat → Nat) (x j : Nat) : Bool := (bfR a r j &&& afR a r (j + 1) n).testBit x && (lkN a (r j)).testBit x
theorem hsum_cn {a : Nat → Int32} {n x : Nat} {r : Nat → Nat} (hP : PR r n) (hx : x < 12) : ∀ i, i ≤ n → hsum a n r (2 ^ x) i = cnT (hoP a n r x) i := by
  intro i
  induction i with
  | zero => intro _; rfl
  | succ i ih =>
    intro hi
    rw [hsum, cnT, ih (by omega)]
    unfold hc
    rw [bf_row hP (by omega), af_row hP (by omega), hc_one hx]
    rfl
theorem ho_in {a : Nat → Int32} {n x j f e : Nat} {r : Nat → Nat} (h1 : f < j) (h2 : j < e) (h3 : e < n) (hf : (gN a (r f)).testBit x = true) (he : (gN a (r e)).testBit x = true) : hoP a n r x j = (lkN a (r j)).testBit x := by
  unfold hoP
  have z1 : (bfR a r j).testBit x = true := (guQ_bit _ _ x j).mpr ⟨f, h1, rfl, hf⟩
  have z2 : (afR a r (j + 1) n).testBit x = true := (guQ_bit _ _ x n).mpr ⟨e, h3, decide_eq_true (by omega), he⟩
  rw [Nat.testBit_and, z1, z2]
  rfl
theorem ho_lo {a : Nat → Int32} {n x j f : Nat} {r : Nat → Nat} (h1 : j ≤ f) (hf : ∀ i, i < f → (gN a (r i)).testBit x = false) : hoP a n r x j = false := by
  unfold hoP
  have z : (bfR a r j).testBit x = false := by
    cases q : (bfR a r j).testBit x
    · rfl
    · obtain ⟨i, hi, -, h⟩ := (guQ_bit _ _ x j).mp q
      have h' : (gN a (r i)).testBit x = true := h
      rw [hf i (by omega)] at h'; cases h'
  rw [Nat.testBit_and, z]
  rfl
theorem ho_hi {a : Nat → Int32} {n x j e : Nat} {r : Nat → Nat} (h1 : e ≤ j) (he : ∀ i, e < i → i < n → (gN a (r i)).testBit x = false) : hoP a n r x j = false := by
  unfold hoP
  have z : (afR a r (j + 1) n).testBit x = false := by
    cases q : (afR a r (j + 1) n).testBit x
    · rfl
    · obtain ⟨i, hi, h2, h⟩ := (guQ_bit _ _ x n).mp q
      have h' : (gN a (r i)).testBit x = true := h
      rw [decide_eq_true_eq] at h2
      rw [he i (by omega) hi] at h'; cases h'
  rw [Nat.testBit_and, z, Bool.and_false]
  rfl
/-! the class's row -/
def RW (st : St) (n : Nat) (G r : Nat → Nat) : Prop := n ≤ 8 ∧ st 47 0 = nI n ∧ (∀ j, j < n → r j < n ∧ st 46 j = nI (r j)) ∧ (∀ i, i < n → st 40 i = nI (G i))
theorem firstq_no {st : St} {N n x : Nat} {G r : Nat → Nat} (h : RW st n G r) (hx : x < 12) (K : Int32 → Option Int32) : ∀ d j fuel, j + d = n → d < fuel → (∀ i, j ≤ i → i < n → (G (r i)).testBit x = false) → f_X3_firstPlaceOf_L2 N (nI x) st K fuel (nI j) = K (nI n) := by
  obtain ⟨h8, h47, h46, h40⟩ := h
  intro d
  induction d with
  | zero =>
    intro j fuel h1 h2 _
    obtain ⟨fuel, rfl⟩ : ∃ f, fuel = f + 1 := ⟨fuel - 1, by omega⟩
    have : j = n := by omega
    subst this
    rw [f_X3_firstPlaceOf_L2, h47, if_pos (nI_le (Nat.le_refl j) (by omega))]
  | succ d ih =>
    intro j fuel h1 h2 hp
    obtain ⟨fuel, rfl⟩ : ∃ f, fuel = f + 1 := ⟨fuel - 1, by omega⟩
    have hj : j < n := by omega
    have hr := (h46 j hj).1
    rw [f_X3_firstPlaceOf_L2, h47, if_neg (nI_ge hj (by omega)), ck_nI (by omega) (by omega), (h46 j hj).2, ck_nI (by omega) (by omega), bnd_s, isIn_bt _ (by omega), h40 _ hr, nI_bt (by omega), hp j (Nat.le_refl j) hj]
    simp only [b2i_f, if_true]
    rw [nI_1]
    exact ih (j + 1) fuel (by omega) (by omega) (fun i hi1 hi2 => hp i (by omega) hi2)
theorem firstq_at {st : St} {N n x f : Nat} {G r : Nat → Nat} (h : RW st n G r) (hx : x < 12) (hf : f < n) (hP : (G (r f)).testBit x = true) (K : Int32 → Option Int32) : ∀ d j fuel, j + d = f → d < fuel → (∀ i, j ≤ i → i < f → (G (r i)).testBit x = false) → f_X3_firstPlaceOf_L2 N (nI x) st K fuel (nI j) = some (nI f) := by
  obtain ⟨h8, h47, h46, h40⟩ := h
  intro d
  induction d with
  | zero =>
    intro j fuel h1 h2 _
    obtain ⟨fuel, rfl⟩ : ∃ f, fuel = f + 1 := ⟨fuel - 1, by omega⟩
    have : j = f := by omega
    subst this
    have hr := (h46 j hf).1
    rw [f_X3_firstPlaceOf_L2, h47, if_neg (nI_ge hf (by omega)), ck_nI (by omega) (by omega), (h46 j hf).2, ck_nI (by omega) (by omega), bnd_s, isIn_bt _ (by omega), h40 _ hr, nI_bt (by omega), hP]
    simp only [b2i_t, if_false]
  | succ d ih =>
    intro j fuel h1 h2 hp
    obtain ⟨fuel, rfl⟩ : ∃ f, fuel = f + 1 := ⟨fuel - 1, by omega⟩
    have hj : j < n := by omega
    have hr := (h46 j hj).1
    rw [f_X3_firstPlaceOf_L2, h47, if_neg (nI_ge hj (by omega)), ck_nI (by omega) (by omega), (h46 j hj).2, ck_nI (by omega) (by omega), bnd_s, isIn_bt _ (by omega), h40 _ hr, nI_bt (by omega), hp j (Nat.le_refl j) (by omega)]
    simp only [b2i_f, if_true]
    rw [nI_1]
    exact ih (j + 1) fuel (by omega) (by omega) (fun i hi1 hi2 => hp i (by omega) hi2)
theorem lastq_no {st : St} {N n x : Nat} {G r : Nat → Nat} (h : RW st n G r) (hx : x < 12) (K : Int32 → Option Int32) : ∀ m fuel, m ≤ n → m < fuel → (∀ i, i < m → (G (r i)).testBit x = false) → f_X3_lastPlaceOf_L7 N (nI x) st K fuel (xI m) = K (-1) := by
  obtain ⟨h8, h47, h46, h40⟩ := h
  intro m
  induction m with
  | zero =>
    intro fuel h1 h2 _
    obtain ⟨fuel, rfl⟩ : ∃ f, fuel = f + 1 := ⟨fuel - 1, by omega⟩
    rw [f_X3_lastPlaceOf_L7, if_pos (show xI 0 < (0 : Int32) by decide)]
    rfl
  | succ m ih =>
    intro fuel h1 h2 hp
    obtain ⟨fuel, rfl⟩ : ∃ f, fuel = f + 1 := ⟨fuel - 1, by omega⟩
    have hj : m < n := by omega
    have hr := (h46 m hj).1
    show f_X3_lastPlaceOf_L7 N (nI x) st K (fuel + 1) (nI m) = _
    rw [f_X3_lastPlaceOf_L7, if_neg (nI_pos (show m < 2 ^ 31 by omega)), ck_nI (by omega) (by omega), (h46 m hj).2, ck_nI (by omega) (by omega), bnd_s, isIn_bt _ (by omega), h40 _ hr, nI_bt (by omega), hp m (by omega)]
    simp only [b2i_f, if_true]
    rw [xI_s]
    exact ih fuel (by omega) (by omega) (fun i hi => hp i (by omega))
theorem lastq_at {st : St} {N n x f : Nat} {G r : Nat → Nat} (h : RW st n G r) (hx : x < 12) (hf : f < n) (hP : (G (r f)).testBit x = true) (K : Int32 → Option Int32) : ∀ d m fuel, f + 1 + d = m → m ≤ n → d < fuel → (∀ i, f < i → i < m → (G (r i)).testBit x = false) → f_X3_lastPlaceOf_L7 N (nI x) st K fuel (xI m) = some (nI f) := by
  obtain ⟨h8, h47, h46, h40⟩ := h
  intro d
  induction d with
  | zero =>
    intro m fuel h1 hm h2 _
    obtain ⟨fuel, rfl⟩ : ∃ f, fuel = f + 1 := ⟨fuel - 1, by omega⟩
    have : m = f + 1 := by omega
    subst this
    have hr := (h46 f hf).1
    show f_X3_lastPlaceOf_L7 N (nI x) st K (fuel + 1) (nI f) = _
    rw [f_X3_lastPlaceOf_L7, if_neg (nI_pos (show f < 2 ^ 31 by omega)), ck_nI (by omega) (by omega), (h46 f hf).2, ck_nI (by omega) (by omega), bnd_s, isIn_bt _ (by omega), h40 _ hr, nI_bt (by omega), hP]
    simp only [b2i_t, if_false]
  | succ d ih =>
    intro m fuel h1 hm h2 hp
    obtain ⟨fuel, rfl⟩ : ∃ f, fuel = f + 1 := ⟨fuel - 1, by omega⟩
    obtain ⟨m, rfl⟩ : ∃ k, m = k + 1 := ⟨m - 1, by omega⟩
    have hj : m < n := by omega
    have hr := (h46 m hj).1
    show f_X3_lastPlaceOf_L7 N (nI x) st K (fuel + 1) (nI m) = _
    rw [f_X3_lastPlaceOf_L7, if_neg (nI_pos (show m < 2 ^ 31 by omega)), ck_nI (by omega) (by omega), (h46 m hj).2, ck_nI (by omega) (by omega), bnd_s, isIn_bt _ (by omega), h40 _ hr, nI_bt (by omega), hp m (by omega) (by omega)]
    simp only [b2i_f, if_true]
    rw [xI_s]
    exact ih m fuel (by omega) (by omega) (by omega) (fun i hi1 hi2 => hp i hi1 (by omega))
theorem xI_pred {n : Nat} (h : 1 ≤ n) : nI n - 1 = xI n := by
  obtain ⟨m, rfl⟩ : ∃ k, n = k + 1 := ⟨n - 1, by omega⟩
  exact nI_pred m
theorem firstP_at {st : St} {N n x f : Nat} {G r : Nat → Nat} (hN : 100 ≤ N) (h : RW st n G r) (hx : x < 12) (hf : f < n) (hP : (G (r f)).testBit x = true) (hm : ∀ i, i < f → (G (r i)).testBit x = false) : f_X3_firstPlaceOf N st (nI x) = some (nI f) := by
  have h8 := h.1
  exact firstq_at h hx hf hP _ f 0 N (by omega) (by omega) (fun i _ hi => hm i hi)
theorem lastP_at {st : St} {N n x f : Nat} {G r : Nat → Nat} (hN : 100 ≤ N) (h : RW st n G r) (hx : x < 12) (hf : f < n) (hP : (G (r f)).testBit x = true) (hm : ∀ i, f < i → i < n → (G (r i)).testBit x = false) : f_X3_lastPlaceOf N st (nI x) = some (nI f) := by
  have h8 := h.1
  unfold f_X3_lastPlaceOf
  rw [h.2.1, bnd_s, xI_pred (by omega)]
  exact lastq_at h hx hf hP _ (n - (f + 1)) n N (by omega) (Nat.le_refl n) (by omega) hm
theorem great_wit {p : Nat → Prop} : ∀ n, (∃ j, j < n ∧ p j) → ∃ k, k < n ∧ p k ∧ ∀ h, k < h → h < n → ¬ p h := by
  intro n
  induction n with
  | zero => rintro ⟨j, hj, -⟩; omega
  | succ n ih =>
    rintro ⟨j, hj, hp⟩
    rcases Classical.em (p n) with q | q
    · exact ⟨n, by omega, q, fun h h1 h2 => by omega⟩
    · have hjn : ¬ j = n := fun e => q (e ▸ hp)
      obtain ⟨k, k1, k2, k3⟩ := ih ⟨j, by omega, hp⟩
      refine ⟨k, by omega, k2, fun h h1 h2 => ?_⟩
      by_cases e : h = n
      · rw [e]; exact q
      · exact k3 h h1 (by omega)
theorem holes_c {st : St} {N n x : Nat} {a : Nat → Int32} {r : Nat → Nat} (hN : 100 ≤ N) (h1 : 1 ≤ n) (h : RW st n (gN a) r) (hl : ∀ i, i < n → st 41 i = nI (lkN a i)) (hx : x < 12) : f_X3_holesOf N st (nI x) = some (nI (cnT (hoP a n r x) n)) := by
  have h8 := h.1
  have h46 := h.2.2.1
  unfold f_X3_holesOf
  rcases Classical.em (∃ j, j < n ∧ (gN a (r j)).testBit x = true) with he | he
  · obtain ⟨j0, hj0, hp0⟩ := he
    obtain ⟨f, hf, hPf, hmf⟩ := least_wit (p := fun j => (gN a (r j)).testBit x = true) j0 hp0
    obtain ⟨e, he, hPe, hme⟩ := great_wit (p := fun j => (gN a (r j)).testBit x = true) n ⟨j0, hj0, hp0⟩
    have hmf' : ∀ i, i < f → (gN a (r i)).testBit x = false := fun i hi => Bool.eq_false_iff.mpr (hmf i hi)
    have hme' : ∀ i, e < i → i < n → (gN a (r i)).testBit x = false := fun i hi hi2 => Bool.eq_false_iff.mpr (hme i hi hi2)
    have hfe : f ≤ e := by
      rcases Nat.lt_or_ge e f with q | q
      · exact absurd hPe (hmf e q)
      · exact q
    rw [lastP_at hN h hx he hPe hme', bd1_s, firstP_at hN h hx (by omega) hPf hmf', bd1_s, bnd_s, nI_1]
    have z0 : cnT (hoP a n r x) (f + 1) = 0 := cnT_z (k := 0) (f + 1) (by omega) (fun j _ hj => ho_lo (show j ≤ f by omega) hmf')
    have z1 : cnT (hoP a n r x) n = cnT (hoP a n r x) e := cnT_z (k := e) n (by omega) (fun j hj _ => ho_hi hj hme')
    rcases Nat.lt_or_ge f e with q | q
    · have hh := loopG (fun fuel s j => f_X3_holesOf_L17 N (nI x) (nI e) st (fun a_11 _ => some a_11) fuel s j) (fun s => some s) e (f + 1) (fun j => nI (cnT (hoP a n r x) j)) (fun j fuel hk hj => by
        show f_X3_holesOf_L17 N (nI x) (nI e) st _ (fuel + 1) _ _ = f_X3_holesOf_L17 N (nI x) (nI e) st _ fuel (nI (cnT (hoP a n r x) j + (if hoP a n r x j then 1 else 0))) _
        have hr := h46 j (by omega)
        rw [f_X3_holesOf_L17, if_neg (nI_ge hj (by omega)), ck_nI (by omega) (by omega), hr.2, ck_nI (by omega) (by omega), bnd_s, isIn_bt _ (by omega), hl _ hr.1, nI_bt (by omega), nI_1, nI_1, ho_in (show f < j by omega) hj he hPf hPe]
        cases (lkN a (r j)).testBit x
        · simp only [b2i_f, if_true]; rfl
        · simp only [b2i_t, if_false]; rfl) (fun fuel => by
        show f_X3_holesOf_L17 N (nI x) (nI e) st _ (fuel + 1) _ _ = _
        rw [f_X3_holesOf_L17, if_pos (nI_le (Nat.le_refl e) (by omega))]) (e - (f + 1)) (f + 1) N (Nat.le_refl _) (by omega) (by omega)
      rw [z0] at hh
      rw [z1]
      exact hh
    · obtain ⟨M, rfl⟩ : ∃ f, N = f + 1 := ⟨N - 1, by omega⟩
      rw [f_X3_holesOf_L17, if_pos (nI_le (show e ≤ f + 1 by omega) (by omega)), z1, cnT_z (p := hoP a n r x) (k := 0) e (by omega) (fun j _ hj => ho_lo (show j ≤ f by omega) hmf')]
      rfl
  · have hno : ∀ i, i < n → (gN a (r i)).testBit x = false := fun i hi => by
      cases q : (gN a (r i)).testBit x
      · rfl
      · exact absurd ⟨i, hi, q⟩ he
    have e1 : f_X3_lastPlaceOf N st (nI x) = some (-1) := by
      unfold f_X3_lastPlaceOf
      rw [h.2.1, bnd_s, xI_pred (by omega)]
      exact lastq_no h hx _ n N (Nat.le_refl n) (by omega) hno
    have e2 : f_X3_firstPlaceOf N st (nI x) = some (-1) := firstq_no h hx _ n 0 N (by omega) (by omega) (fun i _ hi => hno i hi)
    obtain ⟨M, rfl⟩ : ∃ f, N = f + 1 := ⟨N - 1, by omega⟩
    rw [e1, bd1_s, e2, bd1_s, bnd_s, f_X3_holesOf_L17, if_pos (show (-1 : Int32) ≤ -1 + 1 by decide), cnT_z (p := hoP a n r x) (k := 0) n (by omega) (fun j _ hj => ho_lo (f := n) (by omega) hno)]
    rfl
/-! both sides, after the search for all goods -/
theorem row_ok {cs ms : St} {n w : Nat} (hO : GO n w (ms 0)) (hK : SOK cs n) (hd : ∀ i, i < n → dG cs i = tkG (ms 0) 4095 i ∧ dL cs i = tkL (ms 0) 4095 i ∧ dC cs i = cN (ms 0) i) : RW cs n (gN (ms 0)) (dR cs) ∧ PR (dR cs) n ∧ (∀ i, i < n → cs 41 i = nI (lkN (ms 0) i)) ∧ GSok cs n (gN (ms 0)) := by
  have hP := SOK_PR hK
  obtain ⟨hI, hg, -, -⟩ := hK
  have eg : ∀ i, i < n → dG cs i = gN (ms 0) i := fun i hi => (hd i hi).1.trans (and_4095 (hO.gN_lt hi))
  have el : ∀ i, i < n → dL cs i = lkN (ms 0) i := fun i hi => (hd i hi).2.1.trans (and_4095 (lkN_lt _ _))
  refine ⟨⟨hI.2.1, hI.2.2.1, fun j hj => ⟨hP.1 j hj, (nI_tn _).symm⟩, fun i hi => ?_⟩, hP, fun i hi => ?_, fun X hX => ?_⟩
  · rw [← eg i hi]; exact (hI.2.2.2.1 i hi).1
  · rw [← el i hi]; exact (hI.2.2.2.1 i hi).2.1
  · rw [hg X hX]
    refine congrArg nI (guQ_ext (fun i hi hp => ⟨i, hi, hp, eg i hi⟩) (fun i hi hp => ⟨i, hi, hp, eg i hi⟩))
theorem s_holes {N : Nat} (hN : 200000000 ≤ N) : ∀ cs ms, Rel SO cs ms → ∀ (a1 : Int32), StepI (Rel SO) (f_X5_holes N cs a1) (f_X6_holes N ms a1) := by
  intro cs ms hR a1
  obtain ⟨hG, ⟨n, w, hO⟩, -⟩ := id hR
  unfold f_X5_holes f_X6_holes
  simp only [bnd_s, isGood_w]
  rcases isGood_cases a1 with g1 | ⟨g1, x, hx, rfl⟩
  · rw [g1]; simp only [b2i_f, if_true]; exact fin_step SO_ok hR _
  · rw [g1]; simp only [b2i_t, if_false]
    rw [hind_c hG hO]
    rcases hind_0 hO with ⟨h, h1, h8⟩ | h
    · rw [if_pos h, if_pos h, nI_bit (by omega)]
      obtain ⟨cs', ms', z1, z2, z3, z4, z5, z6, z7, z8, -, -, z9, z10⟩ := both_s (mask := 4095) hN hR hO h1 h8
      rw [← z8] at z7
      obtain ⟨y1, y2, y3, y4⟩ := row_ok z5 z6 z7
      rw [show f_X3_solve N cs 4095 = some cs' from z1, show f_X6_search N ms 4095 = some ms' from z2, bd1_s, bd1_s, holes_c (by omega) h1 y1 y3 hx, bd1_s, holesIn_m (y := 6) (mask := 2 ^ x) (r := dR cs') z5 (by omega) (show n ≤ 10 by omega) (fun j hj => ⟨y2.1 j hj, (z9 j hj).trans (nI_tn _).symm⟩), bd1_s, hsum_cn y2 hx n (Nat.le_refl n)]
      exact ⟨_, _, _, rfl, rfl, z3⟩
    · rw [if_neg h, if_neg h]
      exact fin_step SO_ok hR _
theorem good19_m {ms : St} {N n w x : Nat} {up : Bool} (K : Int32 → Int32 → Option (Int32 × St)) (hO : GO n w (ms 0)) (hN : 100 ≤ N) (hx : x < 12) : f_X6_good_L19 N (nI x) up ms K N 0 0 = K (if bs (hvB (ms 0) x) n = 0 then 0 else 1) (nI n) := by
  have hn := hO.1
  have e0 : ms 0 0 = nI n := hO.2.2.1
  refine loopF (fun fuel s j => f_X6_good_L19 N (nI x) up ms K fuel s j) (fun s => K s (nI n)) n (fun j => if bs (hvB (ms 0) x) j = 0 then 0 else 1) (fun j fuel hj => ?_) (fun fuel => ?_) n 0 N (by omega) (by omega)
  · show f_X6_good_L19 N (nI x) up ms K (fuel + 1) (if bs (hvB (ms 0) x) j = 0 then 0 else 1) _ = f_X6_good_L19 N (nI x) up ms K fuel (if bs (hvB (ms 0) x) (j + 1) = 0 then 0 else 1) _
    rw [f_X6_good_L19, e0, if_neg (nI_ge hj (by omega)), has_m hO hj hx, bd1_s, nI_1]
    by_cases hz : bs (hvB (ms 0) x) j = 0
    · rw [if_pos hz, if_pos rfl]
      cases hp : hvB (ms 0) x j
      · simp only [b2i_f, if_true]
        rw [if_pos (show bs (hvB (ms 0) x) (j + 1) = 0 by rw [bs, hp]; exact hz)]
      · simp only [b2i_t, if_false]
        rw [if_neg (show ¬ bs (hvB (ms 0) x) (j + 1) = 0 by rw [bs, hp]; exact or_ne0 _ _)]
    · rw [if_neg hz, if_neg (show ¬ (1 : Int32) = 0 by decide)]
      have z : ¬ bs (hvB (ms 0) x) (j + 1) = 0 := by
        intro q
        apply hz
        refine bits_ext (fun b => ?_)
        rw [bs_bit, Nat.zero_testBit]
        by_cases hb : b < j
        · rw [bs_z q (show b < j + 1 by omega), Bool.and_false]
        · rw [decide_eq_false hb]; rfl
      rw [if_neg z]
  · show f_X6_good_L19 N (nI x) up ms K (fuel + 1) _ _ = _
    rw [f_X6_good_L19, e0, if_pos (nI_le (Nat.le_refl n) (by omega))]
theorem good96_f {ms : St} {N n w x f : Nat} {r : Nat → Nat} (K : Int32 → Int32 → Option (Int32 × St)) (hO : GO n w (ms 0)) (hx : x < 12) (hr : ∀ j, j < n → r j < n ∧ ms 6 j = nI (r j)) (hf : f < n) (hP : (gN (ms 0) (r f)).testBit x = true) (hm : ∀ i, i < f → (gN (ms 0) (r i)).testBit x = false) : ∀ d j fuel acc, j + d = n → d < fuel → ((acc = -1 ∧ j ≤ f) ∨ (acc = nI f ∧ f < j)) → f_X6_good_L96 N (nI x) false ms K fuel acc (nI j) = K (nI f) (nI n) := by
  have hn := hO.1
  have e0 : ms 0 0 = nI n := hO.2.2.1
  intro d
  induction d with
  | zero =>
    intro j fuel acc h1 h2 hi
    obtain ⟨fuel, rfl⟩ : ∃ f, fuel = f + 1 := ⟨fuel - 1, by omega⟩
    have : j = n := by omega
    subst this
    rw [f_X6_good_L96, e0, if_pos (nI_le (Nat.le_refl j) (by omega))]
    rcases hi with ⟨-, q⟩ | ⟨q, -⟩
    · omega
    · rw [q]
  | succ d ih =>
    intro j fuel acc h1 h2 hi
    obtain ⟨fuel, rfl⟩ : ∃ f, fuel = f + 1 := ⟨fuel - 1, by omega⟩
    have hj : j < n := by omega
    rw [f_X6_good_L96, e0, if_neg (nI_ge hj (by omega)), ck_nI (by omega) (by omega), (hr j hj).2, has_m hO (hr j hj).1 hx, bd1_s, nI_1]
    cases hp : hvB (ms 0) x (r j)
    · simp only [b2i_f, if_true]
      refine ih (j + 1) fuel acc (by omega) (by omega) ?_
      rcases hi with ⟨q1, q2⟩ | ⟨q1, q2⟩
      · refine Or.inl ⟨q1, ?_⟩
        by_cases e : j = f
        · subst e
          have hp' : (gN (ms 0) (r j)).testBit x = false := hp
          rw [hP] at hp'; cases hp'
        · omega
      · exact Or.inr ⟨q1, by omega⟩
    · simp only [b2i_t, b2i_f, if_true, if_false]
      rcases hi with ⟨q1, q2⟩ | ⟨q1, q2⟩
      · have e : j = f := by
          rcases Nat.lt_or_ge j f with q | q
          · have hp' : (gN (ms 0) (r j)).testBit x = true := hp
            rw [hm j q] at hp'; cases hp'
          · omega
        rw [q1, if_neg (show ¬ (0 : Int32) ≤ -1 by decide)]
        exact ih (j + 1) fuel (nI j) (by omega) (by omega) (Or.inr ⟨by rw [e], by omega⟩)
      · rw [q1, if_pos (nI_pos' (show f < 2 ^ 31 by omega))]
        exact ih (j + 1) fuel (nI f) (by omega) (by omega) (Or.inr ⟨rfl, by omega⟩)
theorem good96_t {ms : St} {N n w x f : Nat} {r : Nat → Nat} (K : Int32 → Int32 → Option (Int32 × St)) (hO : GO n w (ms 0)) (hx : x < 12) (hr : ∀ j, j < n → r j < n ∧ ms 6 j = nI (r j)) (hf : f < n) (hP : (gN (ms 0) (r f)).testBit x = true) (hm : ∀ i, f < i → i < n → (gN (ms 0) (r i)).testBit x = false) : ∀ d j fuel acc, j + d = n → d < fuel → (j ≤ f ∨ (acc = nI f ∧ f < j)) → f_X6_good_L96 N (nI x) true ms K fuel acc (nI j) = K (nI f) (nI n) := by
  have hn := hO.1
  have e0 : ms 0 0 = nI n := hO.2.2.1
  intro d
  induction d with
  | zero =>
    intro j fuel acc h1 h2 hi
    obtain ⟨fuel, rfl⟩ : ∃ f, fuel = f + 1 := ⟨fuel - 1, by omega⟩
    have : j = n := by omega
    subst this
    rw [f_X6_good_L96, e0, if_pos (nI_le (Nat.le_refl j) (by omega))]
    rcases hi with q | ⟨q, -⟩
    · omega
    · rw [q]
  | succ d ih =>
    intro j fuel acc h1 h2 hi
    obtain ⟨fuel, rfl⟩ : ∃ f, fuel = f + 1 := ⟨fuel - 1, by omega⟩
    have hj : j < n := by omega
    rw [f_X6_good_L96, e0, if_neg (nI_ge hj (by omega)), ck_nI (by omega) (by omega), (hr j hj).2, has_m hO (hr j hj).1 hx, bd1_s, nI_1]
    cases hp : hvB (ms 0) x (r j)
    · simp only [b2i_f, if_true]
      refine ih (j + 1) fuel acc (by omega) (by omega) ?_
      rcases hi with q2 | ⟨q1, q2⟩
      · refine Or.inl ?_
        by_cases e : j = f
        · subst e
          have hp' : (gN (ms 0) (r j)).testBit x = false := hp
          rw [hP] at hp'; cases hp'
        · omega
      · exact Or.inr ⟨q1, by omega⟩
    · simp only [b2i_t, if_false]
      rcases Nat.lt_or_ge f j with q | q
      · have hp' : (gN (ms 0) (r j)).testBit x = true := hp
        rw [hm j q hj] at hp'; cases hp'
      · refine ih (j + 1) fuel (nI j) (by omega) (by omega) ?_
        by_cases e : j = f
        · exact Or.inr ⟨by rw [e], by omega⟩
        · exact Or.inl (by omega)
theorem s_good {N : Nat} (hN : 200000000 ≤ N) : ∀ cs ms, Rel SO cs ms → ∀ (a1 : Int32) (a2 : Bool), StepI (Rel SO) (f_X5_good N cs a1 a2) (f_X6_good N ms a1 a2) := by
  intro cs ms hR a1 a2
  obtain ⟨hG, ⟨n, w, hO⟩, -⟩ := id hR
  have hn := hO.1
  unfold f_X5_good f_X6_good
  simp only [bnd_s, isGood_w]
  rcases isGood_cases a1 with g1 | ⟨g1, x, hx, rfl⟩
  · rw [g1]; simp only [b2i_f, if_true]; exact fin_step SO_ok hR _
  · rw [g1]; simp only [b2i_t, if_false]
    rw [havers_c hG hO (by omega) hx, bd1_s, good19_m _ hO (by omega) hx]
    have hlt := bs_lt' (hvB (ms 0) x) hn
    by_cases hz : bs (hvB (ms 0) x) n = 0
    · rw [hz, if_pos (show nI 0 = (0 : Int32) from rfl), if_pos (show (0 : Nat) = 0 from rfl), if_pos (show (0 : Int32) = 0 from rfl)]
      exact fin_step SO_ok hR _
    · rw [if_neg (show ¬ nI (bs (hvB (ms 0) x) n) = (0 : Int32) from nI_ne0 (by omega) (by omega)), if_neg hz, if_neg (show ¬ (1 : Int32) = 0 by decide), hind_c hG hO]
      rcases hind_0 hO with ⟨h, h1, h8⟩ | h
      · rw [if_pos h, if_pos h]
        obtain ⟨cs', ms', z1, z2, z3, z4, z5, z6, z7, z8, -, -, z9, z10⟩ := both_s (mask := 4095) hN hR hO h1 h8
        rw [← z8] at z7
        obtain ⟨y1, y2, y3, y4⟩ := row_ok z5 z6 z7
        have hex : ∃ j, j < n ∧ (gN (ms' 0) (dR cs' j)).testBit x = true := by
          rcases Classical.em (∃ j, j < n ∧ (gN (ms' 0) (dR cs' j)).testBit x = true) with q | q
          · exact q
          · exfalso
            apply hz
            refine bits_ext (fun b => ?_)
            rw [bs_bit, Nat.zero_testBit]
            by_cases hb : b < n
            · obtain ⟨j, hj, e⟩ := y2.sur b hb
              cases hv : hvB (ms 0) x b
              · rw [Bool.and_false]
              · refine absurd ⟨j, hj, ?_⟩ q
                rw [e, z8]; exact hv
            · rw [decide_eq_false hb]; rfl
        have hr : ∀ j, j < n → dR cs' j < n ∧ ms' 6 j = nI (dR cs' j) := fun j hj => ⟨y2.1 j hj, (z9 j hj).trans (nI_tn _).symm⟩
        rw [show f_X3_solve N cs 4095 = some cs' from z1, show f_X6_search N ms 4095 = some ms' from z2, bd1_s, bd1_s]
        obtain ⟨j0, hj0, hp0⟩ := id hex
        cases a2
        · simp only [b2i_f, if_true]
          obtain ⟨f, hf, hPf, hmf⟩ := least_wit (p := fun j => (gN (ms' 0) (dR cs' j)).testBit x = true) j0 hp0
          have hmf' : ∀ i, i < f → (gN (ms' 0) (dR cs' i)).testBit x = false := fun i hi => Bool.eq_false_iff.mpr (hmf i hi)
          rw [firstP_at (by omega) y1 hx (by omega) hPf hmf', bd1_s]
          have hg := good96_f (N := N) (fun a_22 _ => some (a_22, ms')) z5 hx hr (by omega) hPf hmf' n 0 N (-1) (by omega) (by omega) (Or.inl ⟨rfl, by omega⟩)
          exact ⟨_, _, _, rfl, hg, z3⟩
        · simp only [b2i_t, if_false]
          obtain ⟨e, he, hPe, hme⟩ := great_wit (p := fun j => (gN (ms' 0) (dR cs' j)).testBit x = true) n hex
          have hme' : ∀ i, e < i → i < n → (gN (ms' 0) (dR cs' i)).testBit x = false := fun i hi hi2 => Bool.eq_false_iff.mpr (hme i hi hi2)
          rw [lastP_at (by omega) y1 hx he hPe hme', bd1_s]
          have hg := good96_t (N := N) (fun a_22 _ => some (a_22, ms')) z5 hx hr he hPe hme' n 0 N (-1) (by omega) (by omega) (Or.inl (by omega))
          exact ⟨_, _, _, rfl, hg, z3⟩
      · rw [if_neg h, if_neg h]
        exact fin_step SO_ok hR _
