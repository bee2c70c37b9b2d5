/-! what goes on at a place -/
def gc (a : Nat → Int32) (n : Nat) (r : Nat → Nat) (p : Nat) : Nat := pc (bfR a r p &&& afR a r p n)
theorem gc_le (a : Nat → Int32) (n : Nat) (r : Nat → Nat) (p : Nat) : gc a n r p ≤ 12 := pcN_le 12 _
theorem rs_lt {r : Nat → Nat} {n : Nat} (h : ∀ j, j < n → r j < n) {p : Nat} (hp : p ≤ n) : rs r p < 2 ^ n := by
  refine lt_pow_of_bits (fun i hi => rs_no (fun j hj e => ?_))
  have := h j (by omega)
  omega
theorem af2_row {a : Nat → Int32} {r : Nat → Nat} {n p : Nat} (h : PR r n) (hp : p ≤ n) : gS (gN a) n (cp n (rs r p)) = afR a r p n := by
  refine guQ_ext (fun g hg hq => ?_) (fun j hj hq => ?_)
  · rw [cp_bit, Bool.and_eq_true, Bool.not_eq_true'] at hq
    obtain ⟨j, hj, e⟩ := h.sur g hg
    refine ⟨j, hj, ?_, by rw [e]⟩
    rw [decide_eq_true_eq]
    rcases Nat.lt_or_ge j p with q | q
    · have z := (rs_bit r g p).mpr ⟨j, q, e⟩
      rw [z] at hq; cases hq.2
    · exact q
  · rw [decide_eq_true_eq] at hq
    refine ⟨r j, h.1 j hj, ?_, rfl⟩
    rw [cp_bit, decide_eq_true (h.1 j hj), rs_no (fun i hi e => by have := h.2 i j (by omega) hj e; omega)]
    rfl
theorem go_c {st : St} {N n p : Nat} {a : Nat → Int32} {r : Nat → Nat} (hN : 100 ≤ N) (h : RW st n (gN a) r) (hg : GSok st n (gN a)) (hP : PR r n) (hl : ∀ i, i < n → gN a i < 4096) (hp : p < n) : f_X3_goingOnAt N st (nI p) = some (nI (gc a n r p)) := by
  obtain ⟨h8, h47, h46, -⟩ := h
  unfold f_X3_goingOnAt
  have hS : rs r p < 2 ^ n := rs_lt hP.1 (by omega)
  have h256 := p2_256 h8
  have hC := cp_lt n (rs r p)
  have hh := loopF (fun fuel s i => f_X3_goingOnAt_L4 N (nI p) st (fun a_4 _ => ck 256 a_4 fun j_6 => bnd (f_X3_allGraves st) fun r_7 => ck 256 (r_7 &&& (a_4 ^^^ (-1 : Int32))) fun j_8 => bnd (f_J6_bitCount_0f7a4 ((st 43 j_6) &&& (st 43 j_8))) fun r_9 => some r_9) fuel s i) (fun s => ck 256 s fun j_6 => bnd (f_X3_allGraves st) fun r_7 => ck 256 (r_7 &&& (s ^^^ (-1 : Int32))) fun j_8 => bnd (f_J6_bitCount_0f7a4 ((st 43 j_6) &&& (st 43 j_8))) fun r_9 => some r_9) p (fun i => nI (rs r i)) (fun i fuel hi => by
    show f_X3_goingOnAt_L4 N (nI p) st _ (fuel + 1) _ _ = f_X3_goingOnAt_L4 N (nI p) st _ fuel (nI (rs r i ||| 2 ^ r i)) _
    have hr := h46 i (by omega)
    rw [f_X3_goingOnAt_L4, if_neg (nI_ge hi (by omega)), ck_nI (by omega) (by omega), bnd_s, hr.2, nI_bit (by omega), nI_or, nI_1]) (fun fuel => by
    show f_X3_goingOnAt_L4 N (nI p) st _ (fuel + 1) _ _ = _
    rw [f_X3_goingOnAt_L4, if_pos (nI_le (Nat.le_refl p) (by omega))]) p 0 N (by omega) (by omega)
  refine Eq.trans hh ?_
  show (ck 256 (nI (rs r p)) fun j_6 => bnd (f_X3_allGraves st) fun r_7 => ck 256 (r_7 &&& (nI (rs r p) ^^^ (-1 : Int32))) fun j_8 => bnd (f_J6_bitCount_0f7a4 ((st 43 j_6) &&& (st 43 j_8))) fun r_9 => some r_9) = _
  rw [ck_nI (by omega) (by omega), bnd_s, allG_c h8 h47, nI_andnot]
  show (ck 256 (nI (cp n (rs r p))) fun j_8 => bnd (f_J6_bitCount_0f7a4 ((st 43 (rs r p)) &&& (st 43 j_8))) fun r_9 => some r_9) = _
  have e1 : gS (gN a) n (rs r p) = bfR a r p := bf_row hP (by omega)
  have hlt : bfR a r p < 4096 := guQ_lt (fun j hj _ => hl _ (hP.1 j (by omega)))
  rw [ck_nI (by omega) (by omega), bnd_s, hg _ hS, hg _ hC, e1, af2_row hP (by omega), nI_and, bc_nI (and_lt hlt)]
  rfl
theorem orz_0 (x : Int32) : x ||| 0 = x := by
  apply b_ext; intro i hi
  rw [b_or, b_0, Bool.or_false]
def bf2 (a : Nat → Int32) (r : Nat → Nat) (p : Nat) : Nat → Nat := guQ (fun j => decide (j < p)) (fun j => gN a (r j))
theorem bf2_n {a : Nat → Int32} {r : Nat → Nat} {n p : Nat} (hp : p ≤ n) : bf2 a r p n = bfR a r p := by
  refine guQ_ext (fun j hj hq => ?_) (fun j hj _ => ?_)
  · rw [decide_eq_true_eq] at hq
    exact ⟨j, hq, rfl, rfl⟩
  · exact ⟨j, by omega, decide_eq_true hj, rfl⟩
theorem go_m {ms : St} {N n w p : Nat} {r : Nat → Nat} (hO : GO n w (ms 0)) (hN : 100 ≤ N) (hr : ∀ j, j < n → r j < n ∧ ms 6 j = nI (r j)) (hp : p ≤ n) : f_X6_goesOn N ms (nI p) = some (nI (gc (ms 0) n r p)) := by
  have hn := hO.1
  have e0 : ms 0 0 = nI n := hO.2.2.1
  unfold f_X6_goesOn
  have hh := loopF (fun fuel (s : Int32 × Int32) i => f_X6_goesOn_L7 N (nI p) ms (fun a_17 a_18 _ => bd1 (f_X6_many N (a_17 &&& a_18)) fun r_21 => some r_21) fuel s.1 s.2 i) (fun s => bd1 (f_X6_many N (s.1 &&& s.2)) fun r_21 => some r_21) n (fun i => (nI (bf2 (ms 0) r p i), nI (afR (ms 0) r p i))) (fun i fuel hi => by
    show f_X6_goesOn_L7 N (nI p) ms _ (fuel + 1) (nI (bf2 (ms 0) r p i)) (nI (afR (ms 0) r p i)) _ = f_X6_goesOn_L7 N (nI p) ms _ fuel (nI (if decide (i < p) then bf2 (ms 0) r p i ||| gN (ms 0) (r i) else bf2 (ms 0) r p i)) (nI (if decide (p ≤ i) then afR (ms 0) r p i ||| gN (ms 0) (r i) else afR (ms 0) r p i)) _
    have h1 := hr i hi
    rw [f_X6_goesOn_L7, e0, if_neg (nI_ge hi (by omega))]
    by_cases q : i < p
    · rw [if_neg (nI_ge q (by omega)), ck_nI (by omega) (by omega), h1.2, ck_32 (by omega) (by omega), bnd_s, if_neg (nI_ge q (by omega)), bnd_s, orz_0, gN_eq (ms 0) (r i), nI_or, nI_1, decide_eq_true q, decide_eq_false (show ¬ p ≤ i by omega)]
      rfl
    · rw [if_pos (nI_le (show p ≤ i by omega) (by omega)), bnd_s, if_pos (nI_le (show p ≤ i by omega) (by omega)), ck_nI (by omega) (by omega), h1.2, ck_32 (by omega) (by omega), bnd_s, orz_0, gN_eq (ms 0) (r i), nI_or, nI_1, decide_eq_false q, decide_eq_true (show p ≤ i by omega)]
      rfl) (fun fuel => by
    show f_X6_goesOn_L7 N (nI p) ms _ (fuel + 1) _ _ _ = _
    rw [f_X6_goesOn_L7, e0, if_pos (nI_le (Nat.le_refl n) (by omega))]) n 0 N (by omega) (by omega)
  refine Eq.trans hh ?_
  show (bd1 (f_X6_many N (nI (bf2 (ms 0) r p n) &&& nI (afR (ms 0) r p n))) fun r_21 => some r_21) = _
  have hlt : bfR (ms 0) r p < 4096 := guQ_lt (fun j hj _ => hO.gN_lt (hr j (by omega)).1)
  rw [bf2_n hp, nI_and, many_nI (by omega) (and_lt hlt), bd1_s]
  rfl
/-! the class's borders -/
theorem mark_c {st0 : St} {N n : Nat} {c : Nat → Nat} {k : Int32} (K : Int32 → St → Option St) (h8 : n ≤ 8) (hgo : ∀ st : St, (∀ q, q < 48 → st q = st0 q) → ∀ p, p < n → f_X3_goingOnAt N st (nI p) = some (nI (c p))) : ∀ d i fuel st, i + d = n → d < fuel → (∀ q, ¬ q = 48 → ¬ q = 49 → st q = st0 q) → st0 50 0 = nI n → (∀ j, j < i → st 48 j = nI (c j) ∧ st 49 j = 0) → ∃ st', f_X0_choose_L15 N k K fuel (nI i) st = K (nI n) st' ∧ (∀ q, ¬ q = 48 → ¬ q = 49 → st' q = st0 q) ∧ (∀ j, j < n → st' 48 j = nI (c j) ∧ st' 49 j = 0) := by
  intro d
  induction d with
  | zero =>
    intro i fuel st h1 h2 hE h50 hI
    obtain ⟨fuel, rfl⟩ : ∃ f, fuel = f + 1 := ⟨fuel - 1, by omega⟩
    have : i = n := by omega
    subst this
    have e : st 50 0 = nI i := by rw [hE 50 (by omega) (by omega)]; exact h50
    rw [f_X0_choose_L15, e, if_pos (nI_le (Nat.le_refl i) (by omega))]
    exact ⟨st, rfl, hE, hI⟩
  | succ d ih =>
    intro i fuel st h1 h2 hE h50 hI
    obtain ⟨fuel, rfl⟩ : ∃ f, fuel = f + 1 := ⟨fuel - 1, by omega⟩
    have hi : i < n := by omega
    have e : st 50 0 = nI n := by rw [hE 50 (by omega) (by omega)]; exact h50
    rw [f_X0_choose_L15, e, if_neg (nI_ge hi (by omega)), hgo st (fun q hq => hE q (by omega) (by omega)) i hi, bd1_s, sto_nI (by omega) (by omega), sto_nI (by omega) (by omega), nI_1]
    refine ih (i + 1) fuel _ (by omega) (by omega) (fun q h8 h9 => by rw [sU_ne _ _ _ h9, sU_ne _ _ _ h8]; exact hE q h8 h9) h50 (fun j hj => ?_)
    rw [sU_eq, sU_ne _ _ _ (show ¬ (48 : Nat) = 49 by omega), sU_eq, sU_ne _ _ _ (show ¬ (49 : Nat) = 48 by omega)]
    by_cases q : j = i
    · subst q; rw [upd_eq, upd_eq]; exact ⟨rfl, rfl⟩
    · rw [upd_ne _ _ q, upd_ne _ _ q]; exact hI j (by omega)
def Chp (c : Nat → Nat) (B i q : Nat) : Prop := (q = 0 ∧ ∀ j, 1 ≤ j → j < i → B.testBit j = true) ∨ (1 ≤ q ∧ q < i ∧ B.testBit q = false ∧ ∀ j, 1 ≤ j → j < i → B.testBit j = false → j = q ∨ BE c q j)
theorem cheap_c {st : St} {N n B : Nat} {c : Nat → Nat} (h8 : n ≤ 8) (hc : ∀ j, c j ≤ 12) (h50 : st 50 0 = nI n) (h48 : ∀ j, j < n → st 48 j = nI (c j)) (h49 : ∀ j, j < n → st 49 j = b2i (B.testBit j)) : ∀ d i fuel q, i + d = n → d < fuel → 1 ≤ i → Chp c B i q → ∃ q', f_X0_cheapestFree_L4 N st (fun a_8 _ => some a_8) fuel (nI q) (nI i) = some (nI q') ∧ Chp c B n q' := by
  intro d
  induction d with
  | zero =>
    intro i fuel q h1 h2 hi hC
    obtain ⟨fuel, rfl⟩ : ∃ f, fuel = f + 1 := ⟨fuel - 1, by omega⟩
    have : i = n := by omega
    subst this
    rw [f_X0_cheapestFree_L4, h50, if_pos (nI_le (Nat.le_refl i) (by omega))]
    exact ⟨q, rfl, hC⟩
  | succ d ih =>
    intro i fuel q h1 h2 hi hC
    obtain ⟨fuel, rfl⟩ : ∃ f, fuel = f + 1 := ⟨fuel - 1, by omega⟩
    have hin : i < n := by omega
    have hci := hc i
    rw [f_X0_cheapestFree_L4, h50, if_neg (nI_ge hin (by omega)), ck_nI (by omega) (by omega), h49 i hin, nI_1]
    cases hb : B.testBit i
    · simp only [b2i_f, if_true]
      rcases hC with ⟨rfl, hC⟩ | ⟨q1, q2, q3, q4⟩
      · rw [if_pos (show nI 0 = (0 : Int32) from rfl)]
        refine ih (i + 1) fuel i (by omega) (by omega) (by omega) (Or.inr ⟨hi, by omega, hb, fun j hj1 hj2 hjb => ?_⟩)
        by_cases e : j = i
        · exact Or.inl e
        · rw [hC j hj1 (by omega)] at hjb; cases hjb
      · have hcq := hc q
        rw [if_neg (show ¬ nI q = (0 : Int32) from nI_ne0 (by omega) (by omega)), ck_nI (by omega) (by omega), ck_nI (by omega) (by omega), h48 q (by omega), h48 i hin]
        by_cases hle : c q ≤ c i
        · rw [if_pos (nI_le hle (by omega))]
          refine ih (i + 1) fuel q (by omega) (by omega) (by omega) (Or.inr ⟨q1, by omega, q3, fun j hj1 hj2 hjb => ?_⟩)
          by_cases e : j = i
          · subst e
            refine Or.inr ?_
            unfold BE
            omega
          · exact q4 j hj1 (by omega) hjb
        · rw [if_neg (nI_ge (by omega) (by omega))]
          refine ih (i + 1) fuel i (by omega) (by omega) (by omega) (Or.inr ⟨hi, by omega, hb, fun j hj1 hj2 hjb => ?_⟩)
          by_cases e : j = i
          · exact Or.inl e
          · refine Or.inr ?_
            unfold BE
            rcases q4 j hj1 (by omega) hjb with z | z
            · subst z; omega
            · unfold BE at z; omega
    · simp only [b2i_t, if_false]
      refine ih (i + 1) fuel q (by omega) (by omega) (by omega) ?_
      rcases hC with ⟨q0, hC⟩ | ⟨q1, q2, q3, q4⟩
      · refine Or.inl ⟨q0, fun j hj1 hj2 => ?_⟩
        by_cases e : j = i
        · rw [e]; exact hb
        · exact hC j hj1 (by omega)
      · refine Or.inr ⟨q1, by omega, q3, fun j hj1 hj2 hjb => ?_⟩
        by_cases e : j = i
        · rw [e, hb] at hjb; cases hjb
        · exact q4 j hj1 (by omega) hjb
def GB (c : Nat → Nat) (n B m : Nat) : Prop := B < 2 ^ n ∧ B.testBit 0 = false ∧ pcN n B = m ∧ ∀ i j, B.testBit i = true → 1 ≤ j → j < n → B.testBit j = false → BE c i j
def BS (st0 st : St) (c : Nat → Nat) (n B : Nat) : Prop := (∀ q, ¬ q = 49 → ¬ q = 50 → st q = st0 q) ∧ st 50 0 = nI n ∧ (∀ j, j < n → st 49 j = b2i (B.testBit j)) ∧ st 50 1 = nI (scN c B n)
theorem rounds_c {st0 : St} {N n k : Nat} {c : Nat → Nat} (hN : 100 ≤ N) (h1 : 1 ≤ n) (h8 : n ≤ 8) (hk : k ≤ n) (hc : ∀ j, c j ≤ 12) (h48 : ∀ j, j < n → st0 48 j = nI (c j)) : ∀ d i fuel B st, i + d = k → d < fuel → 1 ≤ i → BS st0 st c n B → GB c n B (i - 1) → ∃ st' B', f_X0_choose_L49 N (nI k) (fun _ st_18 => some st_18) fuel (nI i) st = some st' ∧ BS st0 st' c n B' ∧ GB c n B' (k - 1) := by
  intro d
  induction d with
  | zero =>
    intro i fuel B st hd h2 hi hS hB
    obtain ⟨fuel, rfl⟩ : ∃ f, fuel = f + 1 := ⟨fuel - 1, by omega⟩
    have : i = k := by omega
    subst this
    rw [f_X0_choose_L49, if_pos (nI_le (Nat.le_refl i) (by omega))]
    exact ⟨st, B, rfl, hS, hB⟩
  | succ d ih =>
    intro i fuel B st hd h2 hi hS hB
    obtain ⟨fuel, rfl⟩ : ∃ f, fuel = f + 1 := ⟨fuel - 1, by omega⟩
    have hik : i < k := by omega
    obtain ⟨s1, s2, s3, s4⟩ := hS
    obtain ⟨b1, b2, b3, b4⟩ := hB
    have e48 : ∀ j, j < n → st 48 j = nI (c j) := fun j hj => by rw [s1 48 (by omega) (by omega)]; exact h48 j hj
    obtain ⟨q, hq, hC⟩ := cheap_c (N := N) h8 hc s2 e48 s3 (n - 1) 1 N 0 (by omega) (by omega) (by omega) (Or.inl ⟨rfl, fun j hj1 hj2 => by omega⟩)
    have hq' : f_X0_cheapestFree N st = some (nI q) := hq
    rw [f_X0_choose_L49, if_neg (nI_ge hik (by omega)), hq', bd1_s, nI_1]
    rcases hC with ⟨rfl, hC⟩ | ⟨q1, q2, q3, q4⟩
    · exfalso
      have z := pcN_or (t := B) (g := 0) b2 n
      rw [if_pos (show 0 < n by omega), b3] at z
      obtain ⟨g, hg, hgb⟩ := pcN_not n (B ||| 2 ^ 0) (by omega)
      rw [Nat.testBit_or, Nat.testBit_two_pow, Bool.or_eq_false_iff, decide_eq_false_iff_not] at hgb
      have := hC g (by omega) hg
      rw [hgb.1] at this; cases this
    · rw [if_neg (show ¬ nI q ≤ (0 : Int32) from nI_ge (a := 0) q1 (by omega)), sto_nI (by omega) (by omega), ck_nI (by omega) (by omega), bnd_s]
      have hb' : ∀ j, (B ||| 2 ^ q).testBit j = (B.testBit j || decide (q = j)) := fun j => by rw [Nat.testBit_or, Nat.testBit_two_pow]
      refine ih (i + 1) fuel (B ||| 2 ^ q) _ (by omega) (by omega) (by omega) ⟨fun x h9 h0 => ?_, ?_, fun j hj => ?_, ?_⟩ ⟨or_lt2 b1 q2, ?_, ?_, fun i' j hi' hj1 hj2 hjb => ?_⟩
      · rw [sU_ne _ _ _ h0, sU_ne _ _ _ h9]; exact s1 x h9 h0
      · rw [sU_eq, upd_ne _ _ (show ¬ (0 : Nat) = 1 by omega), sU_ne _ _ _ (show ¬ (50 : Nat) = 49 by omega)]; exact s2
      · rw [sU_ne _ _ _ (show ¬ (49 : Nat) = 50 by omega), sU_eq, hb']
        by_cases e : j = q
        · subst e; rw [upd_eq, decide_eq_true rfl, Bool.or_true]; rfl
        · rw [upd_ne _ _ e, decide_eq_false (fun z => e z.symm), Bool.or_false]; exact s3 j hj
      · rw [sU_eq, upd_eq, sU_ne _ _ _ (show ¬ (50 : Nat) = 49 by omega), sU_ne _ _ _ (show ¬ (48 : Nat) = 49 by omega), s4, e48 q q2, nI_add, sc_or q3, if_pos q2]
      · rw [hb', b2, decide_eq_false (by omega)]; rfl
      · rw [pcN_or q3, if_pos q2, b3]; omega
      · rw [hb', Bool.or_eq_true, decide_eq_true_eq] at hi'
        rw [hb', Bool.or_eq_false_iff, decide_eq_false_iff_not] at hjb
        rcases hi' with z | z
        · exact b4 i' j z hj1 hj2 hjb.1
        · subst z
          rcases q4 j hj1 hj2 hjb.1 with y | y
          · exact absurd y.symm hjb.2
          · exact y
theorem choose_c {st : St} {N n k : Nat} {a : Nat → Int32} {r : Nat → Nat} (hN : 100 ≤ N) (h1 : 1 ≤ n) (hk1 : 1 ≤ k) (hk : k ≤ n) (h : RW st n (gN a) r) (hg : GSok st n (gN a)) (hP : PR r n) (hl : ∀ i, i < n → gN a i < 4096) : ∃ st' B, f_X0_choose N st (nI k) = some st' ∧ (∀ q, ¬ q = 48 → ¬ q = 49 → ¬ q = 50 → st' q = st q) ∧ st' 50 0 = nI n ∧ (∀ j, j < n → st' 49 j = b2i (B.testBit j)) ∧ st' 50 1 = nI (scN (gc a n r) B n) ∧ GB (gc a n r) n B (k - 1) := by
  have h8 := h.1
  unfold f_X0_choose
  simp only [bnd_s]
  generalize hs : sU (sU st 50 0 (st 47 0)) 50 1 0 = s0
  have e0 : ∀ q, ¬ q = 50 → s0 q = st q := fun q hq => by rw [← hs, sU_ne _ _ _ hq, sU_ne _ _ _ hq]
  have e50 : s0 50 0 = nI n := by rw [← hs, sU_eq, upd_ne _ _ (show ¬ (0 : Nat) = 1 by omega), sU_eq, upd_eq]; exact h.2.1
  have e51 : s0 50 1 = 0 := by rw [← hs, sU_eq, upd_eq]
  have hgo : ∀ s : St, (∀ q, q < 48 → s q = s0 q) → ∀ p, p < n → f_X3_goingOnAt N s (nI p) = some (nI (gc a n r p)) := fun s hq p hp => by
    have eq : ∀ q, q < 48 → s q = st q := fun q h => (hq q h).trans (e0 q (by omega))
    refine go_c hN ⟨h8, by rw [eq 47 (by omega)]; exact h.2.1, fun j hj => by rw [eq 46 (by omega)]; exact h.2.2.1 j hj, fun j hj => by rw [eq 40 (by omega)]; exact h.2.2.2 j hj⟩ (fun X hX => by rw [eq 43 (by omega)]; exact hg X hX) hP hl hp
  obtain ⟨s1, x1, x2, x3⟩ := mark_c (c := gc a n r) (k := nI k) (fun a_8 st_9 => f_X0_choose_L49 N (nI k) (fun _ st_18 => some st_18) N 1 st_9) h8 hgo n 0 N s0 (by omega) (by omega) (fun _ _ _ => rfl) e50 (fun j hj => by omega)
  have z0 : ∀ m, scN (gc a n r) 0 m = 0 := by
    intro m
    induction m with
    | zero => rfl
    | succ m ih => rw [scN, ih, Nat.zero_testBit]; rfl
  obtain ⟨s2, B, y1, y2, y3⟩ := rounds_c (st0 := s1) (N := N) hN h1 h8 hk (gc_le a n r) (fun j hj => (x3 j hj).1) (k - 1) 1 N 0 s1 (by omega) (by omega) (by omega) ⟨fun _ _ _ => rfl, by rw [x2 50 (by omega) (by omega)]; exact e50, fun j hj => by rw [(x3 j hj).2, Nat.zero_testBit]; rfl, by rw [x2 50 (by omega) (by omega), e51, z0]; rfl⟩ ⟨Nat.two_pow_pos n, Nat.zero_testBit 0, pcN_0 n, fun i j hi => by rw [Nat.zero_testBit] at hi; cases hi⟩
  refine ⟨s2, B, ?_, fun q h48 h49 h50 => ?_, y2.2.1, y2.2.2.1, y2.2.2.2, y3⟩
  · exact Eq.trans x1 y1
  · rw [y2.1 q h49 h50, x2 q h48 h49]; exact e0 q h50
