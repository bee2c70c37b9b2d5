/-! the class's table over sets -/
def al (n : Nat) : Nat := 2 ^ n - 1
def cp (n X : Nat) : Nat := al n &&& (al n ^^^ (al n &&& X))
def gS (G : Nat → Nat) (n S : Nat) : Nat := guQ (fun h => S.testBit h) G n
def may (Cu : Nat → Nat) (S g : Nat) : Bool := !S.testBit g && decide (Cu g &&& (Cu g ^^^ (Cu g &&& S)) = 0)
def hq (G Lk : Nat → Nat) (n S g : Nat) : Nat := pc ((gS G n S &&& gS G n (cp n (S ||| 2 ^ g))) &&& Lk g)
def ct (G Lk : Nat → Nat) (n : Nat) (T : Nat → Nat) (S g : Nat) : Nat := hq G Lk n S g + T (S ||| 2 ^ g)
def wS (G Lk Cu : Nat → Nat) (n : Nat) (T : Nat → Nat) (W : Nat → Int32) (S : Nat) : Nat → Nat × Int32
  | 0 => (1000000, 0)
  | i + 1 =>
    if may Cu S i then
      (if ct G Lk n T S i < (wS G Lk Cu n T W S i).1 then (ct G Lk n T S i, W (S ||| 2 ^ i))
       else if ct G Lk n T S i = (wS G Lk Cu n T W S i).1 then ((wS G Lk Cu n T W S i).1, (wS G Lk Cu n T W S i).2 + W (S ||| 2 ^ i)) else wS G Lk Cu n T W S i)
    else wS G Lk Cu n T W S i
theorem al_bit (n i : Nat) : (al n).testBit i = decide (i < n) := Nat.testBit_two_pow_sub_one n i
theorem al_lt (n : Nat) : al n < 2 ^ n := by
  have := Nat.two_pow_pos n
  unfold al; omega
theorem le_al {n S : Nat} : S ≤ al n ↔ S < 2 ^ n := by
  have := Nat.two_pow_pos n
  unfold al; omega
theorem p2_256 {n : Nat} (h : n ≤ 8) : 2 ^ n ≤ 256 := Nat.pow_le_pow_right (i := n) (j := 8) (by omega) h
theorem cp_lt (n X : Nat) : cp n X < 2 ^ n := Nat.lt_of_le_of_lt Nat.and_le_left (al_lt n)
theorem cp_bit (n X i : Nat) : (cp n X).testBit i = (decide (i < n) && !X.testBit i) := by
  unfold cp
  rw [Nat.testBit_and, Nat.testBit_xor, Nat.testBit_and, al_bit]
  cases decide (i < n) <;> cases X.testBit i <;> rfl
theorem or_lt2 {n S g : Nat} (hS : S < 2 ^ n) (hg : g < n) : S ||| 2 ^ g < 2 ^ n := Nat.or_lt_two_pow hS (p2_lt hg)
theorem or_gt {S g : Nat} (h : S.testBit g = false) : S < S ||| 2 ^ g := by
  have h1 : S ≤ S ||| 2 ^ g := Nat.left_le_or
  have h2 : ¬ S = S ||| 2 ^ g := by
    intro q
    have : (S ||| 2 ^ g).testBit g = true := by rw [Nat.testBit_or, Nat.testBit_two_pow, decide_eq_true rfl, Bool.or_true]
    rw [← q, h] at this; cases this
  omega
theorem may_no {Cu : Nat → Nat} {S g : Nat} (h : may Cu S g = true) : S.testBit g = false := by
  unfold may at h
  cases q : S.testBit g
  · rfl
  · rw [q] at h; cases h
theorem andn_sub (c S : Nat) : (c &&& (c ^^^ (c &&& S)) = 0) ↔ sub c S := by
  constructor
  · intro h i hi
    have := congrArg (fun t => t.testBit i) h
    simp only [Nat.testBit_and, Nat.testBit_xor, hi, Nat.zero_testBit, Bool.true_and] at this
    cases hs : S.testBit i
    · rw [hs] at this; cases this
    · rfl
  · intro h
    apply bits_ext
    intro i
    rw [Nat.testBit_and, Nat.testBit_xor, Nat.testBit_and, Nat.zero_testBit]
    cases hc : c.testBit i
    · rfl
    · rw [h i hc]; rfl
theorem may_sub {Cu : Nat → Nat} {S g : Nat} : may Cu S g = true ↔ S.testBit g = false ∧ sub (Cu g) S := by
  unfold may
  rw [Bool.and_eq_true, Bool.not_eq_true', decide_eq_true_eq, andn_sub]
theorem wS_congr {G Lk Cu : Nat → Nat} {n : Nat} {T T' : Nat → Nat} {W W' : Nat → Int32} {S : Nat} (hS : S < 2 ^ n) (h : ∀ X, S < X → X < 2 ^ n → T X = T' X ∧ W X = W' X) : ∀ i, i ≤ n → wS G Lk Cu n T W S i = wS G Lk Cu n T' W' S i := by
  intro i
  induction i with
  | zero => intro _; rfl
  | succ i ih =>
    intro hi
    unfold wS
    rw [ih (by omega)]
    cases hm : may Cu S i
    · rfl
    · obtain ⟨e1, e2⟩ := h (S ||| 2 ^ i) (or_gt (may_no hm)) (or_lt2 hS (by omega))
      have e3 : ct G Lk n T S i = ct G Lk n T' S i := by unfold ct; rw [e1]
      rw [e2, e3]
theorem wS_le (G Lk Cu : Nat → Nat) (n : Nat) (T : Nat → Nat) (W : Nat → Int32) (S : Nat) : ∀ i, (wS G Lk Cu n T W S i).1 ≤ 1000000 := by
  intro i
  induction i with
  | zero => exact Nat.le_refl _
  | succ i ih =>
    unfold wS
    split
    · split
      · rename_i h; exact Nat.le_of_lt (Nat.lt_of_lt_of_le h ih)
      · split
        · exact ih
        · exact ih
    · exact ih
/-- what has been taken in -/
def SI (st : St) (n : Nat) (G Lk Cu : Nat → Nat) : Prop := 1 ≤ n ∧ n ≤ 8 ∧ st 47 0 = nI n ∧ (∀ i, i < n → st 40 i = nI (G i) ∧ st 41 i = nI (Lk i) ∧ st 42 i = nI (Cu i)) ∧ (∀ i, i < n → G i < 4096 ∧ Lk i < 4096 ∧ Cu i < 2 ^ n)
def GSok (st : St) (n : Nat) (G : Nat → Nat) : Prop := ∀ X, X < 2 ^ n → st 43 X = nI (gS G n X)
theorem gS_lt {st : St} {n : Nat} {G Lk Cu : Nat → Nat} (h : SI st n G Lk Cu) (S : Nat) : gS G n S < 4096 := guQ_lt (fun i hi _ => (h.2.2.2.2 i hi).1)
theorem mayF_c {st : St} {n : Nat} {G Lk Cu : Nat → Nat} (h : SI st n G Lk Cu) {S g : Nat} (hg : g < n) : f_X3_mayFollow st (nI S) (nI g) = some (may Cu S g) := by
  obtain ⟨h1, h8, h47, h4, hb⟩ := h
  have hc := (hb g hg).2.2
  have h256 := p2_256 h8
  unfold f_X3_mayFollow may
  rw [bnd_s, isIn_bt _ (by omega), nI_bt (by omega)]
  cases S.testBit g
  · simp only [b2i_f, if_true]
    rw [ck_nI (by omega) (by omega), (h4 g hg).2.2, nI_andnot]
    have hlt : Cu g &&& (Cu g ^^^ (Cu g &&& S)) < 2 ^ 31 := Nat.lt_of_le_of_lt Nat.and_le_left (by omega)
    by_cases q : Cu g &&& (Cu g ^^^ (Cu g &&& S)) = 0
    · rw [if_pos (show nI (Cu g &&& (Cu g ^^^ (Cu g &&& S))) = (0 : Int32) by rw [q]; rfl), decide_eq_true q]; rfl
    · rw [if_neg (show ¬ nI (Cu g &&& (Cu g ^^^ (Cu g &&& S))) = (0 : Int32) from fun z => q (nI_inj (b := 0) hlt (by omega) z)), decide_eq_false q]; rfl
  · simp only [b2i_t, if_false]; rfl
theorem allG_c {st : St} {n : Nat} (h8 : n ≤ 8) (h : st 47 0 = nI n) : f_X3_allGraves st = nI (al n) := by
  unfold f_X3_allGraves al
  have := Nat.two_pow_pos n
  rw [h, nI_bit (by omega), show 2 ^ n = (2 ^ n - 1) + 1 by omega, nI_pred]
  rfl
theorem cost_t {st : St} {n : Nat} {G Lk Cu : Nat → Nat} {T : Nat → Nat} (h : SI st n G Lk Cu) (hG : GSok st n G) {S g : Nat} (hS : S < 2 ^ n) (hg : g < n) (hT : st 44 (S ||| 2 ^ g) = nI (T (S ||| 2 ^ g))) : f_X3_costThrough st (nI S) (nI g) = some (nI (ct G Lk n T S g)) := by
  obtain ⟨h1, h8, h47, h4, hb⟩ := id h
  have h256 := p2_256 h8
  have ho := or_lt2 hS hg
  have hcp := cp_lt n (S ||| 2 ^ g)
  unfold f_X3_costThrough ct hq
  rw [nI_bit (by omega), nI_or, bnd_s, ck_nI (by omega) (by omega), allG_c h8 h47, bnd_s, nI_andnot]
  show (ck 256 (nI (cp n (S ||| 2 ^ g))) fun j_4 => _) = _
  rw [ck_nI (by omega) (by omega), bnd_s, ck_nI (by omega) (by omega)]
  simp only [bnd_s]
  rw [hG S hS, hG _ hcp, (h4 g hg).2.1, nI_and, nI_and, bc_nI (and_lt (and_lt (gS_lt h S))), ck_nI (by omega) (by omega), hT, nI_add]
theorem weigh1_c {st : St} {N n : Nat} {G Lk Cu : Nat → Nat} {T : Nat → Nat} {W : Nat → Int32} (K : Int32 → Int32 → Int32 → Option St) (hN : 100 ≤ N) (h : SI st n G Lk Cu) (hG : GSok st n G) {S : Nat} (hS : S < 2 ^ n) (hT : ∀ X, S < X → X < 2 ^ n → st 44 X = nI (T X) ∧ st 45 X = W X ∧ T X ≤ 1000000) : f_X3_weighSets_L36 N (nI S) st K N 1000000 0 0 = K (nI (wS G Lk Cu n T W S n).1) (wS G Lk Cu n T W S n).2 (nI n) := by
  obtain ⟨h1, h8, h47, h4, hb⟩ := id h
  have h256 := p2_256 h8
  refine loopF (fun fuel (s : Int32 × Int32) i => f_X3_weighSets_L36 N (nI S) st K fuel s.1 s.2 i) (fun s => K s.1 s.2 (nI n)) n (fun i => (nI (wS G Lk Cu n T W S i).1, (wS G Lk Cu n T W S i).2)) (fun i fuel hi => ?_) (fun fuel => ?_) n 0 N (by omega) (by omega)
  · show f_X3_weighSets_L36 N (nI S) st K (fuel + 1) (nI (wS G Lk Cu n T W S i).1) (wS G Lk Cu n T W S i).2 (nI i) = f_X3_weighSets_L36 N (nI S) st K fuel (nI (wS G Lk Cu n T W S (i + 1)).1) (wS G Lk Cu n T W S (i + 1)).2 (nI (i + 1))
    have hle := wS_le G Lk Cu n T W S i
    rw [f_X3_weighSets_L36, h47, if_neg (nI_ge hi (by omega)), mayF_c h hi, bd1_s, nI_1]
    cases hm : may Cu S i
    · simp only [b2i_f, if_true]
      rw [show wS G Lk Cu n T W S (i + 1) = wS G Lk Cu n T W S i by rw [wS, hm]; rfl]
    · simp only [b2i_t, if_false]
      have ho := or_lt2 hS hi
      obtain ⟨t1, t2, t3⟩ := hT (S ||| 2 ^ i) (or_gt (may_no hm)) ho
      have hh : hq G Lk n S i ≤ 12 := pc_le _
      have hct : ct G Lk n T S i < 2 ^ 31 := by unfold ct; omega
      rw [cost_t h hG hS hi t1, bd1_s, nI_bit (by omega), nI_or, ck_nI (by omega) (by omega), ck_nI (by omega) (by omega), t2]
      simp only [bnd_s]
      have e : wS G Lk Cu n T W S (i + 1) = (if ct G Lk n T S i < (wS G Lk Cu n T W S i).1 then (ct G Lk n T S i, W (S ||| 2 ^ i)) else if ct G Lk n T S i = (wS G Lk Cu n T W S i).1 then ((wS G Lk Cu n T W S i).1, (wS G Lk Cu n T W S i).2 + W (S ||| 2 ^ i)) else wS G Lk Cu n T W S i) := by
        rw [wS, hm]; rfl
      rw [e]
      by_cases c1 : ct G Lk n T S i < (wS G Lk Cu n T W S i).1
      · rw [if_pos c1, if_neg (show ¬ nI (wS G Lk Cu n T W S i).1 ≤ nI (ct G Lk n T S i) from nI_ge c1 (by omega)), if_pos trivial]
        rw [show (0 : Int32) + W (S ||| 2 ^ i) = W (S ||| 2 ^ i) from by apply Int32.toBitVec_inj.mp; simp]
      · rw [if_neg c1, if_pos (show nI (wS G Lk Cu n T W S i).1 ≤ nI (ct G Lk n T S i) from nI_le (by omega) hct)]
        by_cases c2 : ct G Lk n T S i = (wS G Lk Cu n T W S i).1
        · rw [if_pos c2, if_pos (show nI (ct G Lk n T S i) = nI (wS G Lk Cu n T W S i).1 by rw [c2])]
        · rw [if_neg c2, if_neg (show ¬ nI (ct G Lk n T S i) = nI (wS G Lk Cu n T W S i).1 from fun q => c2 (nI_inj hct (by omega) q))]
  · show f_X3_weighSets_L36 N (nI S) st K (fuel + 1) _ _ _ = _
    rw [f_X3_weighSets_L36, h47, if_pos (nI_le (Nat.le_refl n) (by omega))]
def xI (m : Nat) : Int32 := match m with | 0 => -1 | m + 1 => nI m
theorem xI_s (m : Nat) : nI m + (-1) = xI m := by
  cases m with
  | zero => decide
  | succ m => exact pk_m1 m
/-- the table says of each set what its followers say -/
def Tab (st : St) (n : Nat) (G Lk Cu : Nat → Nat) (m : Nat) : Prop := ∀ S, m ≤ S → S < 2 ^ n → tn (st 44 S) ≤ 1000000 ∧ (S = al n → tn (st 44 S) = 0 ∧ st 45 S = 1) ∧ (S < al n → (tn (st 44 S), st 45 S) = wS G Lk Cu n (fun X => tn (st 44 X)) (st 45) S n)
def E45 (a b : St) : Prop := ∀ c, ¬ c = 44 → ¬ c = 45 → b c = a c
theorem SI.congr {a b : St} {n : Nat} {G Lk Cu : Nat → Nat} (h : SI a n G Lk Cu) (e : ∀ c, c = 40 ∨ c = 41 ∨ c = 42 ∨ c = 47 → b c = a c) : SI b n G Lk Cu := by
  obtain ⟨h1, h8, h47, h4, hb⟩ := h
  exact ⟨h1, h8, by rw [e 47 (by omega)]; exact h47, fun i hi => by rw [e 40 (by omega), e 41 (by omega), e 42 (by omega)]; exact h4 i hi, hb⟩
theorem weigh2_c {N n : Nat} {G Lk Cu : Nat → Nat} (hN : 1000 ≤ N) : ∀ m fuel st, m ≤ al n → m < fuel → SI st n G Lk Cu → GSok st n G → Tab st n G Lk Cu m → ∃ st', f_X3_weighSets_L23 N (fun _ st_25 => some st_25) fuel (xI m) st = some st' ∧ E45 st st' ∧ Tab st' n G Lk Cu 0 := by
  intro m
  induction m with
  | zero =>
    intro fuel st _ hf _ _ hT
    obtain ⟨fuel, rfl⟩ : ∃ f, fuel = f + 1 := ⟨fuel - 1, by omega⟩
    rw [f_X3_weighSets_L23, if_pos (show xI 0 < (0 : Int32) by decide)]
    exact ⟨st, rfl, fun _ _ _ => rfl, hT⟩
  | succ m ih =>
    intro fuel st hm hf hI hG hT
    obtain ⟨fuel, rfl⟩ : ∃ f, fuel = f + 1 := ⟨fuel - 1, by omega⟩
    have h8 := hI.2.1
    have h256 := p2_256 h8
    have hal := al_lt n
    have hmn : m < 2 ^ n := by omega
    show ∃ st', f_X3_weighSets_L23 N (fun _ st_25 => some st_25) (fuel + 1) (nI m) st = some st' ∧ E45 st st' ∧ Tab st' n G Lk Cu 0
    rw [f_X3_weighSets_L23, if_neg (nI_pos (by omega)), weigh1_c (T := fun X => tn (st 44 X)) (W := st 45) _ (by omega) hI hG hmn (fun X h1 h2 => ⟨(nI_tn _).symm, rfl, (hT X (by omega) h2).1⟩), sto_nI (by omega) (by omega), sto_nI (by omega) (by omega), xI_s]
    generalize hw : wS G Lk Cu n (fun X => tn (st 44 X)) (st 45) m n = w
    have hwle : w.1 ≤ 1000000 := by rw [← hw]; exact wS_le _ _ _ _ _ _ _ _
    have hE : E45 st (sU (sU st 44 m (nI w.1)) 45 m w.2) := fun c h4 h5 => by rw [sU_ne _ _ _ h5, sU_ne _ _ _ h4]
    have v4 : ∀ X, sU (sU st 44 m (nI w.1)) 45 m w.2 44 X = if X = m then nI w.1 else st 44 X := fun X => by rw [sU_ne _ _ _ (show ¬ 44 = 45 by omega), sU_eq]; rfl
    have v5 : ∀ X, sU (sU st 44 m (nI w.1)) 45 m w.2 45 X = if X = m then w.2 else st 45 X := fun X => by rw [sU_eq, sU_ne _ _ _ (show ¬ 45 = 44 by omega)]; rfl
    obtain ⟨st', e, E2, hT'⟩ := ih fuel (sU (sU st 44 m (nI w.1)) 45 m w.2) (by omega) (by omega) (hI.congr (fun c hc => hE c (by omega) (by omega))) (fun X hX => by rw [hE 43 (by omega) (by omega)]; exact hG X hX) (fun S h1 h2 => by
      have hcg : ∀ S, m ≤ S → S < 2 ^ n → wS G Lk Cu n (fun X => tn (sU (sU st 44 m (nI w.1)) 45 m w.2 44 X)) (sU (sU st 44 m (nI w.1)) 45 m w.2 45) S n = wS G Lk Cu n (fun X => tn (st 44 X)) (st 45) S n := fun S hS hSn => wS_congr hSn (fun X q1 q2 => by rw [v4, v5, if_neg (show ¬ X = m by omega), if_neg (show ¬ X = m by omega)]; exact ⟨rfl, rfl⟩) n (Nat.le_refl n)
      rw [hcg S h1 h2, v4, v5]
      by_cases q : S = m
      · subst q
        rw [if_pos rfl, if_pos rfl, tn_nI (by omega), hw]
        exact ⟨hwle, fun z => by omega, fun _ => rfl⟩
      · rw [if_neg q, if_neg q]
        exact hT S (by omega) h2)
    refine ⟨st', e, fun c h4 h5 => (E2 c h4 h5).trans (hE c h4 h5), hT'⟩
theorem weigh_c {st : St} {N n : Nat} {G Lk Cu : Nat → Nat} (hN : 1000 ≤ N) (hI : SI st n G Lk Cu) (hG : GSok st n G) : ∃ st', f_X3_weighSets N st = some st' ∧ E45 st st' ∧ Tab st' n G Lk Cu 0 := by
  obtain ⟨h1, h8, h47, h4, hb⟩ := id hI
  have h256 := p2_256 h8
  have hal := al_lt n
  have hp : 2 ^ 1 ≤ 2 ^ n := Nat.pow_le_pow_right (by omega) h1
  have ha1 : 1 ≤ al n := by unfold al; omega
  unfold f_X3_weighSets
  rw [allG_c h8 h47, bnd_s, sto_nI (by omega) (by omega), sto_nI (by omega) (by omega), bnd_s]
  have e : nI (al n) - 1 = xI (al n) := by
    obtain ⟨k, hk⟩ : ∃ k, al n = k + 1 := ⟨al n - 1, by omega⟩
    rw [hk, nI_pred]; rfl
  rw [e]
  have hE : E45 st (sU (sU st 44 (al n) 0) 45 (al n) 1) := fun c h4 h5 => by rw [sU_ne _ _ _ h5, sU_ne _ _ _ h4]
  obtain ⟨st', e, E2, hT'⟩ := weigh2_c hN (al n) N (sU (sU st 44 (al n) 0) 45 (al n) 1) (Nat.le_refl _) (by omega) (hI.congr (fun c hc => hE c (by omega) (by omega))) (fun X hX => by rw [hE 43 (by omega) (by omega)]; exact hG X hX) (fun S q1 q2 => by
    have : S = al n := by have := le_al.mpr q2; omega
    subst this
    rw [sU_ne _ _ _ (show ¬ 44 = 45 by omega), sU_eq, upd_eq, sU_eq, upd_eq]
    exact ⟨by decide, fun _ => ⟨by decide, rfl⟩, fun z => by omega⟩)
  exact ⟨st', e, fun c h4 h5 => (E2 c h4 h5).trans (hE c h4 h5), hT'⟩
