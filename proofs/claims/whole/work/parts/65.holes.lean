/-! holes -/
def guQ (p : Nat → Bool) (f : Nat → Nat) : Nat → Nat
  | 0 => 0
  | i + 1 => if p i then guQ p f i ||| f i else guQ p f i
theorem guQ_bit (p : Nat → Bool) (f : Nat → Nat) (b : Nat) : ∀ m, (guQ p f m).testBit b = true ↔ ∃ i, i < m ∧ p i = true ∧ (f i).testBit b = true := by
  intro m
  induction m with
  | zero =>
    constructor
    · intro h
      have : (0 : Nat).testBit b = true := h
      rw [Nat.zero_testBit] at this; cases this
    · rintro ⟨i, hi, -⟩; omega
  | succ m ih =>
    unfold guQ
    cases hp : p m
    · rw [if_neg (by decide), ih]
      constructor
      · rintro ⟨i, hi, h1, h2⟩; exact ⟨i, by omega, h1, h2⟩
      · rintro ⟨i, hi, h1, h2⟩
        by_cases q : i = m
        · subst q; rw [hp] at h1; cases h1
        · exact ⟨i, by omega, h1, h2⟩
    · rw [if_pos rfl, Nat.testBit_or, Bool.or_eq_true, ih]
      constructor
      · rintro (⟨i, hi, h1, h2⟩ | h)
        · exact ⟨i, by omega, h1, h2⟩
        · exact ⟨m, by omega, hp, h⟩
      · rintro ⟨i, hi, h1, h2⟩
        by_cases q : i = m
        · subst q; exact Or.inr h2
        · exact Or.inl ⟨i, by omega, h1, h2⟩
theorem guQ_lt {p : Nat → Bool} {f : Nat → Nat} {m : Nat} (h : ∀ i, i < m → p i = true → f i < 4096) : guQ p f m < 4096 := by
  refine lt_pow_of_bits (m := 12) (fun b hb => ?_)
  cases q : (guQ p f m).testBit b
  · rfl
  · obtain ⟨i, hi, h1, h2⟩ := (guQ_bit p f b m).mp q
    rw [bit_lt (m := 12) (h i hi h1) hb] at h2; cases h2
theorem guQ_ext {p q : Nat → Bool} {f h : Nat → Nat} {m k : Nat} (h1 : ∀ i, i < m → p i = true → ∃ j, j < k ∧ q j = true ∧ f i = h j) (h2 : ∀ j, j < k → q j = true → ∃ i, i < m ∧ p i = true ∧ f i = h j) : guQ p f m = guQ q h k := by
  apply sub_eq
  · intro b hb
    obtain ⟨i, hi, a1, a2⟩ := (guQ_bit p f b m).mp hb
    obtain ⟨j, hj, b1, b2⟩ := h1 i hi a1
    exact (guQ_bit q h b k).mpr ⟨j, hj, b1, by rw [← b2]; exact a2⟩
  · intro b hb
    obtain ⟨j, hj, a1, a2⟩ := (guQ_bit q h b k).mp hb
    obtain ⟨i, hi, b1, b2⟩ := h2 j hj a1
    exact (guQ_bit p f b m).mpr ⟨i, hi, b1, by rw [b2]; exact a2⟩
def mh (a : Nat → Int32) (g : Nat) : Bool := decide (a (2 + g) = 1) || decide (a (2 + g) = 3)
def bfN (a : Nat → Int32) (n S : Nat) : Nat := guQ (fun h => S.testBit h) (gN a) n
def afN (a : Nat → Int32) (n S g : Nat) : Nat := guQ (fun h => !S.testBit h && !decide (h = g)) (gN a) n
def hcT (a : Nat → Int32) (g t : Nat) : Nat := if mh a g then 0 else pc (t &&& (t ^^^ (t &&& gN a g)))
def hc (a : Nat → Int32) (n g S mask : Nat) : Nat := hcT a g ((bfN a n S &&& afN a n S g) &&& mask)
theorem bfN_lt {a : Nat → Int32} {n w S : Nat} (hO : GO n w a) : bfN a n S < 4096 := guQ_lt (fun i hi _ => hO.gN_lt hi)
theorem afN_lt {a : Nat → Int32} {n w S g : Nat} (hO : GO n w a) : afN a n S g < 4096 := guQ_lt (fun i hi _ => hO.gN_lt hi)
theorem mayHave_m {ms : St} {g : Nat} (hg : g < 10) : f_X6_mayHave ms (nI g) = some (mh (ms 0) g) := by
  unfold f_X6_mayHave mh
  rw [ck_2 (by omega) (by omega), ck_2 (by omega) (by omega)]
  by_cases h1 : ms 0 (2 + g) = 1
  · rw [if_pos h1, decide_eq_true h1]; rfl
  · rw [if_neg h1, decide_eq_false h1]
    by_cases h3 : ms 0 (2 + g) = 3
    · rw [if_pos h3, decide_eq_true h3]; rfl
    · rw [if_neg h3, decide_eq_false h3]; rfl
theorem holesOf_m {ms : St} {N n w g S mask : Nat} (hO : GO n w (ms 0)) (hN : 100 ≤ N) (hg : g < n) : f_X6_holesOf N ms (nI g) (nI S) (nI mask) = some (nI (hc (ms 0) n g S mask)) := by
  have hn := hO.1
  have e0 : ms 0 0 = nI n := hO.2.2.1
  unfold f_X6_holesOf hc hcT
  rw [mayHave_m (by omega), bd1_s]
  cases mh (ms 0) g
  · simp only [b2i_f, if_true, Bool.false_eq_true, if_false]
    have h := loopF (fun fuel (s : Int32 × Int32) i => f_X6_holesOf_L19 N (nI g) (nI S) (nI mask) ms (fun a_11 a_12 _ => ck 116 (32 + nI g) fun j_14 => bd1 (f_X6_many N (((a_11 &&& a_12) &&& nI mask) &&& ((ms 0 j_14) ^^^ (-1 : Int32)))) fun r_16 => some r_16) fuel s.1 s.2 i) (fun s => ck 116 (32 + nI g) fun j_14 => bd1 (f_X6_many N (((s.1 &&& s.2) &&& nI mask) &&& ((ms 0 j_14) ^^^ (-1 : Int32)))) fun r_16 => some r_16) n (fun i => (nI (bfN (ms 0) i S), nI (afN (ms 0) i S g))) (fun i fuel hi => ?_) (fun fuel => ?_) n 0 N (by omega) (by omega)
    · refine Eq.trans h ?_
      show (ck 116 (32 + nI g) fun j_14 => bd1 (f_X6_many N (((nI (bfN (ms 0) n S) &&& nI (afN (ms 0) n S g)) &&& nI mask) &&& ((ms 0 j_14) ^^^ (-1 : Int32)))) fun r_16 => some r_16) = _
      rw [ck_32 (by omega) (by omega), gN_eq (ms 0) g, nI_and, nI_and, nI_andnot, many_nI (by omega) (and_lt (and_lt (and_lt (bfN_lt hO)))), bd1_s]
    · show f_X6_holesOf_L19 N (nI g) (nI S) (nI mask) ms _ (fuel + 1) (nI (bfN (ms 0) i S)) (nI (afN (ms 0) i S g)) _ = f_X6_holesOf_L19 N (nI g) (nI S) (nI mask) ms _ fuel (nI (if S.testBit i then bfN (ms 0) i S ||| gN (ms 0) i else bfN (ms 0) i S)) (nI (if (!S.testBit i && !decide (i = g)) then afN (ms 0) i S g ||| gN (ms 0) i else afN (ms 0) i S g)) _
      rw [f_X6_holesOf_L19, e0, if_neg (nI_ge hi (by omega)), b_tst _ (by omega), nI_bt (by omega), ck_32 (by omega) (by omega), ck_32 (by omega) (by omega), nI_1, gN_eq (ms 0) i]
      simp only [bnd_s, b2i_1, nI_or]
      cases S.testBit i
      · by_cases hig : i = g
        · subst hig
          rw [if_neg (by decide), if_pos rfl, decide_eq_true rfl]; rfl
        · rw [if_neg (by decide), if_neg (show ¬ nI i = nI g from fun q => hig (nI_inj (by omega) (by omega) q)), decide_eq_false hig]; rfl
      · rw [if_pos rfl]; rfl
    · show f_X6_holesOf_L19 N (nI g) (nI S) (nI mask) ms _ (fuel + 1) _ _ _ = _
      rw [f_X6_holesOf_L19, e0, if_pos (nI_le (Nat.le_refl n) (by omega))]
  · simp only [b2i_t, if_false, if_true]; rfl
/-! a row -/
def rs (r : Nat → Nat) : Nat → Nat
  | 0 => 0
  | i + 1 => rs r i ||| 2 ^ r i
theorem rs_bit (r : Nat → Nat) (g : Nat) : ∀ i, (rs r i).testBit g = true ↔ ∃ j, j < i ∧ r j = g := by
  intro i
  induction i with
  | zero =>
    constructor
    · intro h
      have : (0 : Nat).testBit g = true := h
      rw [Nat.zero_testBit] at this; cases this
    · rintro ⟨j, hj, -⟩; omega
  | succ i ih =>
    unfold rs
    rw [Nat.testBit_or, Bool.or_eq_true, ih, Nat.testBit_two_pow, decide_eq_true_eq]
    constructor
    · rintro (⟨j, hj, e⟩ | e)
      · exact ⟨j, by omega, e⟩
      · exact ⟨i, by omega, e⟩
    · rintro ⟨j, hj, e⟩
      by_cases q : j = i
      · subst q; exact Or.inr e
      · exact Or.inl ⟨j, by omega, e⟩
theorem rs_no {r : Nat → Nat} {i g : Nat} (h : ∀ j, j < i → ¬ r j = g) : (rs r i).testBit g = false := by
  cases q : (rs r i).testBit g
  · rfl
  · obtain ⟨j, hj, e⟩ := (rs_bit r g i).mp q
    exact absurd e (h j hj)
theorem pcN_or {t g : Nat} (h : t.testBit g = false) : ∀ m, pcN m (t ||| 2 ^ g) = pcN m t + (if g < m then 1 else 0) := by
  intro m
  induction m with
  | zero => rfl
  | succ m ih =>
    unfold pcN
    rw [ih, Nat.testBit_or, Nat.testBit_two_pow]
    by_cases q : g = m
    · subst q
      rw [h, decide_eq_true rfl, if_neg (Nat.lt_irrefl g), if_pos (Nat.lt_succ_self g)]; rfl
    · rw [decide_eq_false q, Bool.or_false]
      by_cases q2 : g < m
      · have z1 : (if g < m then 1 else 0) = (1 : Nat) := if_pos q2
        have z2 : (if g < m + 1 then 1 else 0) = (1 : Nat) := if_pos (by omega)
        rw [z1, z2]; omega
      · have z1 : (if g < m then 1 else 0) = (0 : Nat) := if_neg q2
        have z2 : (if g < m + 1 then 1 else 0) = (0 : Nat) := if_neg (by omega)
        rw [z1, z2]; omega
theorem pcN_all : ∀ m t, pcN m t = m → ∀ g, g < m → t.testBit g = true := by
  intro m
  induction m with
  | zero => intro t _ g hg; omega
  | succ m ih =>
    intro t h g hg
    unfold pcN at h
    have hle := pcN_le m t
    cases hb : t.testBit m
    · rw [hb] at h; simp at h; omega
    · rw [hb] at h
      by_cases q : g = m
      · subst q; exact hb
      · exact ih t (by simp at h; omega) g (by omega)
/-- a row of n places without one twice -/
def PR (r : Nat → Nat) (n : Nat) : Prop := (∀ j, j < n → r j < n) ∧ (∀ i j, i < n → j < n → r i = r j → i = j)
theorem PR.sur {r : Nat → Nat} {n : Nat} (h : PR r n) : ∀ g, g < n → ∃ j, j < n ∧ r j = g := by
  have hc : ∀ k, k ≤ n → pcN n (rs r k) = k := by
    intro k
    induction k with
    | zero =>
      intro _
      show pcN n 0 = 0
      have : ∀ m, pcN m 0 = 0 := by
        intro m
        induction m with
        | zero => rfl
        | succ m ih => unfold pcN; rw [ih, Nat.zero_testBit]; rfl
      exact this n
    | succ k ih =>
      intro hk
      show pcN n (rs r k ||| 2 ^ r k) = k + 1
      rw [pcN_or (rs_no (fun j hj e => by have := h.2 j k (by omega) (by omega) e; omega)), ih (by omega), if_pos (h.1 k (by omega))]
  intro g hg
  exact (rs_bit r g n).mp (pcN_all n _ (hc n (Nat.le_refl n)) g hg)
def bfR (a : Nat → Int32) (r : Nat → Nat) (i : Nat) : Nat := guQ (fun _ => true) (fun j => gN a (r j)) i
def afR (a : Nat → Int32) (r : Nat → Nat) (k m : Nat) : Nat := guQ (fun j => decide (k ≤ j)) (fun j => gN a (r j)) m
theorem bf_row {a : Nat → Int32} {r : Nat → Nat} {n i : Nat} (h : PR r n) (hi : i ≤ n) : bfN a n (rs r i) = bfR a r i := by
  refine guQ_ext (fun g hg hp => ?_) (fun j hj _ => ?_)
  · obtain ⟨j, hj, e⟩ := (rs_bit r g i).mp hp
    exact ⟨j, hj, rfl, by rw [e]⟩
  · exact ⟨r j, h.1 j (by omega), (rs_bit r (r j) i).mpr ⟨j, hj, rfl⟩, rfl⟩
theorem af_row {a : Nat → Int32} {r : Nat → Nat} {n i : Nat} (h : PR r n) (hi : i < n) : afN a n (rs r i) (r i) = afR a r (i + 1) n := by
  refine guQ_ext (fun g hg hp => ?_) (fun j hj hp => ?_)
  · obtain ⟨j, hj, e⟩ := h.sur g hg
    refine ⟨j, hj, ?_, by rw [e]⟩
    rw [decide_eq_true_eq]
    rw [Bool.and_eq_true, Bool.not_eq_true', Bool.not_eq_true', decide_eq_false_iff_not] at hp
    rcases Nat.lt_or_ge j i with q | q
    · have := (rs_bit r g i).mpr ⟨j, q, e⟩
      rw [this] at hp; cases hp.1
    · by_cases q2 : j = i
      · subst q2; exact absurd e.symm hp.2
      · omega
  · rw [decide_eq_true_eq] at hp
    refine ⟨r j, h.1 j hj, ?_, rfl⟩
    rw [Bool.and_eq_true, Bool.not_eq_true', Bool.not_eq_true', decide_eq_false_iff_not]
    exact ⟨rs_no (fun j' hj' e => by have := h.2 j' j (by omega) hj e; omega), fun e => by have := h.2 j i hj hi e; omega⟩
def hsum (a : Nat → Int32) (n : Nat) (r : Nat → Nat) (mask : Nat) : Nat → Nat
  | 0 => 0
  | i + 1 => hsum a n r mask i + hc a n (r i) (rs r i) mask
theorem holesIn_m {ms : St} {N n w y mask : Nat} {r : Nat → Nat} (hO : GO n w (ms 0)) (hN : 100 ≤ N) (hy : n ≤ mlen y) (hr : ∀ j, j < n → r j < n ∧ ms y j = nI (r j)) : f_X6_holesIn N ms y (nI mask) = some (nI (hsum (ms 0) n r mask n)) := by
  have hn := hO.1
  have e0 : ms 0 0 = nI n := hO.2.2.1
  unfold f_X6_holesIn
  refine loopF (fun fuel (s : Int32 × Int32) i => f_X6_holesIn_L8 N y (nI mask) ms (fun a_8 _ _ => some a_8) fuel s.1 s.2 i) (fun s => some s.1) n (fun i => (nI (hsum (ms 0) n r mask i), nI (rs r i))) (fun i fuel hi => ?_) (fun fuel => ?_) n 0 N (by omega) (by omega)
  · show f_X6_holesIn_L8 N y (nI mask) ms _ (fuel + 1) (nI (hsum (ms 0) n r mask i)) (nI (rs r i)) _ = f_X6_holesIn_L8 N y (nI mask) ms _ fuel (nI (hsum (ms 0) n r mask i + hc (ms 0) n (r i) (rs r i) mask)) (nI (rs r i ||| 2 ^ r i)) _
    obtain ⟨h1, h2⟩ := hr i hi
    rw [f_X6_holesIn_L8, e0, if_neg (nI_ge hi (by omega)), ck_nI (by omega) (by omega), h2, holesOf_m hO hN h1, bd1_s, bnd_s, ck_nI (by omega) (by omega), bnd_s, h2, nI_bit (by omega), nI_or, nI_add, nI_1]
  · show f_X6_holesIn_L8 N y (nI mask) ms _ (fuel + 1) _ _ _ = _
    rw [f_X6_holesIn_L8, e0, if_pos (nI_le (Nat.le_refl n) (by omega))]
/-- counting up from k -/
theorem loopG {β σ : Type} (L : Nat → σ → Int32 → Option β) (K : σ → Option β) (n k : Nat) (F : Nat → σ) (hstep : ∀ i fuel, k ≤ i → i < n → L (fuel + 1) (F i) (nI i) = L fuel (F (i + 1)) (nI (i + 1))) (hend : ∀ fuel, L (fuel + 1) (F n) (nI n) = K (F n)) : ∀ d i fuel, k ≤ i → i + d = n → d < fuel → L fuel (F i) (nI i) = K (F n) := by
  intro d
  induction d with
  | zero =>
    intro i fuel hk h1 h2
    obtain ⟨fuel, rfl⟩ : ∃ f, fuel = f + 1 := ⟨fuel - 1, by omega⟩
    have : i = n := by omega
    subst this
    exact hend fuel
  | succ d ih =>
    intro i fuel hk h1 h2
    obtain ⟨fuel, rfl⟩ : ∃ f, fuel = f + 1 := ⟨fuel - 1, by omega⟩
    rw [hstep i fuel hk (by omega)]
    exact ih (i + 1) fuel (by omega) (by omega) (by omega)
/-! the class's cost of what is told -/
def lkN (a : Nat → Int32) (g : Nat) : Nat := if mh a g then 0 else 4095 &&& (4095 ^^^ (4095 &&& gN a g))
theorem isK1 {a : Nat → Int32} {g t : Nat} (e : a (2 + g) = nI t) (ht : t < 4) : isK t 1 = mh a g := by
  have : t = 0 ∨ t = 1 ∨ t = 2 ∨ t = 3 := by omega
  unfold mh
  rw [e]
  rcases this with rfl | rfl | rfl | rfl <;> decide
theorem lacked_c {cs ms : St} {N n w g : Nat} (hG : GR cs 0 (ms 0)) (hO : GO n w (ms 0)) (hN : 100 ≤ N) (hg : g < n) : f_X1_goodsSurelyLacked N cs g = some (nI (lkN (ms 0) g)) := by
  have hn := hO.1
  obtain ⟨t, ht, et⟩ := hO.kind hg
  have ek : cs 0 g = nI t := (hG.at 0 (by omega) (by omega)).trans et
  unfold f_X1_goodsSurelyLacked lkN
  rw [show f_X1_isOfKind N cs g 1 = some (isK t 1) from kind_N (u := 1) hN ek ht (by omega), bd1_s, isK1 et ht]
  cases mh (ms 0) g
  · simp only [b2i_f, if_true, Bool.false_eq_true, if_false]
    rw [show cs 3 g = nI (gN (ms 0) g) from (hG.at 3 (by omega) (by omega)).trans (gN_eq _ _)]
    exact congrArg some (nI_andnot 4095 _)
  · simp only [b2i_t, if_false, if_true]; rfl
theorem bits_4095 {t : Nat} (h : t < 4096) (b : Nat) : (t.testBit b && (4095 : Nat).testBit b) = t.testBit b := by
  rcases Nat.lt_or_ge b 12 with q | q
  · have : ∀ b, b < 12 → (4095 : Nat).testBit b = true := by decide
    rw [this b q, Bool.and_true]
  · rw [bit_lt (m := 12) h q]; rfl
theorem lk_hc {a : Nat → Int32} {g t : Nat} (ht : t < 4096) : pc (t &&& lkN a g) = hcT a g (t &&& 4095) := by
  unfold lkN hcT
  cases mh a g
  · simp only [Bool.false_eq_true, if_false]
    apply congrArg pc
    apply bits_ext
    intro b
    have h4 := bits_4095 ht b
    simp only [Nat.testBit_and, Nat.testBit_xor]
    cases h1 : t.testBit b <;> cases h2 : (4095 : Nat).testBit b <;> cases h3 : (gN a g).testBit b <;> simp_all
  · simp only [if_true, Nat.and_zero]
    decide
theorem cost_c {cs ms : St} {N n w : Nat} {r : Nat → Nat} (hG : GR cs 0 (ms 0)) (hO : GO n w (ms 0)) (hN : 100 ≤ N) (hP : PR r n) (hr : ∀ j, j < n → cs 11 j = nI (r j)) : f_X2_costOfWaiting N cs = some (nI (hsum (ms 0) n r 4095 n)) := by
  have hn := hO.1
  have e1 : cs 13 0 = nI n := hG.1.trans hO.2.2.1
  have e3 : ∀ g, g < n → cs 3 g = nI (gN (ms 0) g) := fun g hg => (hG.at 3 (by omega) (by omega)).trans (gN_eq _ _)
  unfold f_X2_costOfWaiting
  refine loopF (fun fuel (s : Int32 × Int32) i => f_X2_costOfWaiting_L6 N cs (fun a_16 _ _ => some a_16) fuel s.1 s.2 i) (fun s => some s.1) n (fun i => (nI (hsum (ms 0) n r 4095 i), nI (bfR (ms 0) r i))) (fun i fuel hi => ?_) (fun fuel => ?_) n 0 N (by omega) (by omega)
  · show f_X2_costOfWaiting_L6 N cs _ (fuel + 1) (nI (hsum (ms 0) n r 4095 i)) (nI (bfR (ms 0) r i)) _ = f_X2_costOfWaiting_L6 N cs _ fuel (nI (hsum (ms 0) n r 4095 i + hc (ms 0) n (r i) (rs r i) 4095)) (nI (bfR (ms 0) r i ||| gN (ms 0) (r i))) _
    have hri := hP.1 i hi
    rw [f_X2_costOfWaiting_L6, e1, if_neg (nI_ge hi (by omega)), ck_nI (by omega) (by omega), hr i hi, ck_nI (by omega) (by omega), bnd_s, nI_1]
    have inner : ∀ (K : Int32 → Int32 → Option Int32) (x1 x2 x3 : Int32) (y : Nat), f_X2_costOfWaiting_L35 N x1 x2 x3 y cs K N 0 (nI (i + 1)) = K (nI (afR (ms 0) r (i + 1) n)) (nI n) := by
      intro K x1 x2 x3 y
      have z : afR (ms 0) r (i + 1) (i + 1) = 0 := by
        refine Nat.eq_of_testBit_eq (fun b => ?_)
        rw [Nat.zero_testBit]
        cases q : (afR (ms 0) r (i + 1) (i + 1)).testBit b
        · rfl
        · obtain ⟨j, hj, h1, -⟩ := (guQ_bit _ _ b _).mp q
          rw [decide_eq_true_eq] at h1; omega
      have h := loopG (fun fuel s j => f_X2_costOfWaiting_L35 N x1 x2 x3 y cs K fuel s j) (fun s => K s (nI n)) n (i + 1) (fun j => nI (afR (ms 0) r (i + 1) j)) (fun j fuel hk hj => by
        show f_X2_costOfWaiting_L35 N x1 x2 x3 y cs K (fuel + 1) _ _ = f_X2_costOfWaiting_L35 N x1 x2 x3 y cs K fuel (nI (if decide (i + 1 ≤ j) then afR (ms 0) r (i + 1) j ||| gN (ms 0) (r j) else afR (ms 0) r (i + 1) j)) _
        have hrj := hP.1 j hj
        rw [f_X2_costOfWaiting_L35, e1, if_neg (nI_ge hj (by omega)), ck_nI (by omega) (by omega), hr j hj, ck_nI (by omega) (by omega), bnd_s, e3 _ hrj, nI_or, nI_1, decide_eq_true hk]
        rfl) (fun fuel => by
        show f_X2_costOfWaiting_L35 N x1 x2 x3 y cs K (fuel + 1) _ _ = _
        rw [f_X2_costOfWaiting_L35, e1, if_pos (nI_le (Nat.le_refl n) (by omega))]) (n - (i + 1)) (i + 1) N (Nat.le_refl _) (by omega) (by omega)
      rw [z] at h
      exact h
    rw [inner, lacked_c hG hO hN hri, bd1_s]
    simp only [bnd_s]
    have bl : bfR (ms 0) r i < 4096 := guQ_lt (fun j hj _ => hO.gN_lt (hP.1 j (by omega)))
    rw [e3 _ hri, nI_and, nI_and, bc_nI (and_lt (and_lt bl)), nI_or, nI_add, lk_hc (and_lt bl)]
    unfold hc
    rw [bf_row hP (by omega), af_row hP hi]
  · show f_X2_costOfWaiting_L6 N cs _ (fuel + 1) _ _ _ = _
    rw [f_X2_costOfWaiting_L6, e1, if_pos (nI_le (Nat.le_refl n) (by omega))]
