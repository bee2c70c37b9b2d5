/-! the cheapest places, the first ones -/
def scN (c : Nat → Nat) (X : Nat) : Nat → Nat
  | 0 => 0
  | i + 1 => scN c X i + (if X.testBit i then c i else 0)
def BE (c : Nat → Nat) (i j : Nat) : Prop := c i < c j ∨ (c i = c j ∧ i < j)
theorem ex_le {c : Nat → Nat} {B X M : Nat} : ∀ m, (∀ p, p < m → B.testBit p = true → X.testBit p = false → c p ≤ M) → (∀ p, p < m → B.testBit p = false → X.testBit p = true → M ≤ c p) → scN c B m + M * pcN m X ≤ scN c X m + M * pcN m B ∧ (scN c B m + M * pcN m X = scN c X m + M * pcN m B → ∀ p, p < m → ¬ B.testBit p = X.testBit p → c p = M) := by
  intro m
  induction m with
  | zero => intro _ _; exact ⟨Nat.le_refl _, fun _ p hp => by omega⟩
  | succ m ih =>
    intro h1 h2
    obtain ⟨i1, i2⟩ := ih (fun p hp => h1 p (by omega)) (fun p hp => h2 p (by omega))
    have e1 := h1 m (by omega)
    have e2 := h2 m (by omega)
    have s1 : scN c B (m + 1) = scN c B m + (if B.testBit m then c m else 0) := rfl
    have s2 : scN c X (m + 1) = scN c X m + (if X.testBit m then c m else 0) := rfl
    have p1 : pcN (m + 1) B = pcN m B + (if B.testBit m then 1 else 0) := rfl
    have p2 : pcN (m + 1) X = pcN m X + (if X.testBit m then 1 else 0) := rfl
    rw [s1, s2, p1, p2]
    generalize scN c B m = A at *
    generalize scN c X m = C at *
    rw [Nat.mul_add, Nat.mul_add]
    generalize M * pcN m X = u at *
    generalize M * pcN m B = v at *
    cases hb : B.testBit m <;> cases hx : X.testBit m
    · simp only [Bool.false_eq_true, if_false, Nat.mul_zero, Nat.add_zero]
      refine ⟨i1, fun e p hp hne => ?_⟩
      by_cases q : p = m
      · subst q; rw [hb, hx] at hne; exact absurd rfl hne
      · exact i2 e p (by omega) hne
    · have e3 := e2 hb hx
      simp only [Bool.false_eq_true, if_false, if_true, Nat.mul_zero, Nat.mul_one, Nat.add_zero]
      refine ⟨by omega, fun e p hp hne => ?_⟩
      by_cases q : p = m
      · subst q; omega
      · exact i2 (by omega) p (by omega) hne
    · have e3 := e1 hb hx
      simp only [Bool.false_eq_true, if_false, if_true, Nat.mul_zero, Nat.mul_one, Nat.add_zero]
      refine ⟨by omega, fun e p hp hne => ?_⟩
      by_cases q : p = m
      · subst q; omega
      · exact i2 (by omega) p (by omega) hne
    · simp only [if_true, Nat.mul_one]
      refine ⟨by omega, fun e p hp hne => ?_⟩
      by_cases q : p = m
      · subst q; rw [hb, hx] at hne; exact absurd rfl hne
      · exact i2 (by omega) p (by omega) hne
theorem pc_sub {B X : Nat} : ∀ m, (∀ p, p < m → B.testBit p = true → X.testBit p = true) → pcN m B ≤ pcN m X ∧ (pcN m B = pcN m X → ∀ p, p < m → B.testBit p = X.testBit p) := by
  intro m
  induction m with
  | zero => intro _; exact ⟨Nat.le_refl _, fun _ p hp => by omega⟩
  | succ m ih =>
    intro h
    obtain ⟨i1, i2⟩ := ih (fun p hp => h p (by omega))
    have e1 := h m (by omega)
    have p1 : pcN (m + 1) B = pcN m B + (if B.testBit m then 1 else 0) := rfl
    have p2 : pcN (m + 1) X = pcN m X + (if X.testBit m then 1 else 0) := rfl
    rw [p1, p2]
    cases hb : B.testBit m <;> cases hx : X.testBit m
    · simp only [Bool.false_eq_true, if_false, Nat.add_zero]
      refine ⟨i1, fun e p hp => ?_⟩
      by_cases q : p = m
      · subst q; rw [hb, hx]
      · exact i2 e p (by omega)
    · simp only [Bool.false_eq_true, if_false, if_true, Nat.add_zero]
      exact ⟨by omega, fun e p hp => by omega⟩
    · have z := e1 hb; rw [hx] at z; cases z
    · simp only [if_true]
      refine ⟨by omega, fun e p hp => ?_⟩
      by_cases q : p = m
      · subst q; rw [hb, hx]
      · exact i2 (by omega) p (by omega)
theorem max_wit {p : Nat → Prop} (c : Nat → Nat) : ∀ n, (∃ i, i < n ∧ p i) → ∃ k, k < n ∧ p k ∧ ∀ i, i < n → p i → c i ≤ c k := by
  intro n
  induction n with
  | zero => rintro ⟨i, hi, -⟩; omega
  | succ n ih =>
    rintro ⟨i, hi, hp⟩
    rcases Classical.em (∃ i, i < n ∧ p i) with q | q
    · obtain ⟨k, k1, k2, k3⟩ := ih q
      rcases Classical.em (p n ∧ c k < c n) with z | z
      · refine ⟨n, by omega, z.1, fun j hj hpj => ?_⟩
        by_cases e : j = n
        · rw [e]; exact Nat.le_refl _
        · have := k3 j (by omega) hpj; omega
      · refine ⟨k, by omega, k2, fun j hj hpj => ?_⟩
        by_cases e : j = n
        · subst e
          rcases Nat.lt_or_ge (c k) (c j) with y | y
          · exact absurd ⟨hpj, y⟩ z
          · exact y
        · exact k3 j (by omega) hpj
    · have e : i = n := by
        by_cases e : i = n
        · exact e
        · exact absurd ⟨i, by omega, hp⟩ q
      subst e
      refine ⟨i, by omega, hp, fun j hj hpj => ?_⟩
      by_cases e : j = i
      · rw [e]; exact Nat.le_refl _
      · exact absurd ⟨j, by omega, hpj⟩ q
theorem greedy_wins {c : Nat → Nat} {B X n : Nat} (hB : B < 2 ^ n) (hX : X < 2 ^ n) (hG : ∀ i j, i < n → j < n → B.testBit i = true → B.testBit j = false → X.testBit j = true → BE c i j) (hp : pcN n B = pcN n X) (hne : ¬ X = B) : ∃ b, b < n ∧ (∀ i, i < b → B.testBit i = X.testBit i) ∧ ¬ B.testBit b = X.testBit b ∧ (scN c B n < scN c X n ∨ (scN c B n = scN c X n ∧ B.testBit b = true ∧ X.testBit b = false)) := by
  have hd : ∃ p, p < n ∧ ¬ B.testBit p = X.testBit p := by
    rcases Classical.em (∃ p, p < n ∧ ¬ B.testBit p = X.testBit p) with q | q
    · exact q
    · exfalso
      apply hne
      refine bits_ext (fun i => ?_)
      rcases Nat.lt_or_ge i n with z | z
      · rcases Classical.em (B.testBit i = X.testBit i) with y | y
        · exact y.symm
        · exact absurd ⟨i, z, y⟩ q
      · rw [bit_lt hX z, bit_lt hB z]
  obtain ⟨p0, hp0, hdp⟩ := id hd
  obtain ⟨b, hb1, ⟨hb2, hb3⟩, hb4⟩ := least_wit (p := fun p => p < n ∧ ¬ B.testBit p = X.testBit p) p0 ⟨hp0, hdp⟩
  have hlow : ∀ i, i < b → B.testBit i = X.testBit i := fun i hi => by
    rcases Classical.em (B.testBit i = X.testBit i) with y | y
    · exact y
    · exact absurd ⟨by omega, y⟩ (hb4 i hi)
  have hi0 : ∃ i, i < n ∧ (B.testBit i = true ∧ X.testBit i = false) := by
    rcases Classical.em (∃ i, i < n ∧ (B.testBit i = true ∧ X.testBit i = false)) with q | q
    · exact q
    · exfalso
      have z := (pc_sub (B := B) (X := X) n (fun p hp hbp => by
        cases hx : X.testBit p
        · exact absurd ⟨p, hp, hbp, hx⟩ q
        · rfl)).2 hp b hb2
      exact hb3 z
  obtain ⟨k, k1, ⟨k2, k3⟩, k4⟩ := max_wit c n hi0
  obtain ⟨x1, x2⟩ := ex_le (c := c) (B := B) (X := X) (M := c k) n (fun p hp h1 h2 => k4 p hp ⟨h1, h2⟩) (fun p hp h1 h2 => by
    rcases hG k p k1 hp k2 h1 h2 with z | z
    · omega
    · omega)
  rw [hp] at x1 x2
  refine ⟨b, hb2, hlow, hb3, ?_⟩
  rcases Nat.lt_or_ge (scN c B n) (scN c X n) with q | q
  · exact Or.inl q
  · have e : scN c B n = scN c X n := by omega
    refine Or.inr ⟨e, ?_⟩
    have cb := x2 (by omega) b hb2 hb3
    cases h1 : B.testBit b
    · cases h2 : X.testBit b
      · rw [h1, h2] at hb3; exact absurd rfl hb3
      · exfalso
        rcases hG k b k1 hb2 k2 h1 h2 with z | ⟨-, z⟩
        · omega
        · have := hlow k z
          rw [k2, k3] at this; cases this
    · cases h2 : X.testBit b
      · exact ⟨rfl, rfl⟩
      · rw [h1, h2] at hb3; exact absurd rfl hb3
theorem sc_le {c : Nat → Nat} {X : Nat} (h : ∀ i, c i ≤ 12) : ∀ m, scN c X m ≤ 12 * m := by
  intro m
  induction m with
  | zero => exact Nat.le_refl 0
  | succ m ih =>
    have z := h m
    unfold scN
    split <;> omega
theorem sc_or {c : Nat → Nat} {t g : Nat} (h : t.testBit g = false) : ∀ m, scN c (t ||| 2 ^ g) m = scN c t m + (if g < m then c g else 0) := by
  intro m
  induction m with
  | zero => rfl
  | succ m ih =>
    unfold scN
    rw [ih, Nat.testBit_or, Nat.testBit_two_pow]
    by_cases q : g = m
    · subst q
      rw [h, decide_eq_true rfl, if_neg (Nat.lt_irrefl g), if_pos (Nat.lt_succ_self g)]; rfl
    · rw [decide_eq_false q, Bool.or_false]
      by_cases q2 : g < m
      · have z1 : (if g < m then c g else 0) = c g := if_pos q2
        have z2 : (if g < m + 1 then c g else 0) = c g := if_pos (by omega)
        rw [z1, z2]; omega
      · have z1 : (if g < m then c g else 0) = 0 := if_neg q2
        have z2 : (if g < m + 1 then c g else 0) = 0 := if_neg (by omega)
        rw [z1, z2]; omega
/-! which set is earlier -/
set_option maxRecDepth 100000 in
theorem low_all : (List.range 2048).all (fun t => decide ((t % 256).testBit (t / 256) = true → (t % 256) % 2 ^ (t / 256) = 0 → nI (t % 256) &&& (-(nI (t % 256))) = nI (2 ^ (t / 256)))) = true := by decide +kernel
theorem low_v {v b : Nat} (hv : v < 256) (hb : b < 8) (h1 : v.testBit b = true) (h2 : ∀ i, i < b → v.testBit i = false) : nI v &&& (-(nI v)) = nI (2 ^ b) := by
  have z := co_dec (P := fun t => (t % 256).testBit (t / 256) = true → (t % 256) % 2 ^ (t / 256) = 0 → nI (t % 256) &&& (-(nI (t % 256))) = nI (2 ^ (t / 256))) low_all (show b * 256 + v < 2048 by omega)
  have e1 : (b * 256 + v) % 256 = v := by omega
  have e2 : (b * 256 + v) / 256 = b := by omega
  simp only [e1, e2] at z
  refine z h1 (bits_ext (fun i => ?_))
  rw [Nat.testBit_mod_two_pow, Nat.zero_testBit]
  by_cases q : i < b
  · rw [h2 i q, Bool.and_false]
  · rw [decide_eq_false q]; rfl
theorem nI_xor (a b : Nat) : nI a ^^^ nI b = nI (a ^^^ b) := by
  apply b_ext; intro i hi
  rw [b_xor, nI_bt hi, nI_bt hi, nI_bt hi, Nat.testBit_xor]
theorem early {X Y b : Nat} (hX : X < 256) (hY : Y < 256) (hb : b < 8) (h1 : ¬ X.testBit b = Y.testBit b) (h2 : ∀ i, i < b → X.testBit i = Y.testBit i) : f_X6_isEarlier (nI X) (nI Y) = X.testBit b := by
  unfold f_X6_isEarlier
  rw [bnd_s, nI_xor]
  have hv : X ^^^ Y < 256 := Nat.xor_lt_two_pow (n := 8) hX hY
  have e : (nI X &&& nI (X ^^^ Y)) &&& (-(nI (X ^^^ Y))) = nI (X &&& 2 ^ b) := by
    rw [Int32.and_assoc, low_v hv hb (by rw [Nat.testBit_xor]; cases hx : X.testBit b <;> cases hy : Y.testBit b <;> simp_all) (fun i hi => by rw [Nat.testBit_xor, h2 i hi, Bool.xor_self]), nI_and]
  rw [e, and_bit]
  cases X.testBit b
  · rfl
  · rw [if_pos (show true = true from rfl), if_neg (show ¬ nI (2 ^ b) = (0 : Int32) from nI_ne0 (Nat.two_pow_pos b) (by have := p2_lt hb; omega))]
