/-! the class's first row; what its search keeps -/
def FR (G Lk Cu : Nat → Nat) (n : Nat) (T : Nat → Nat) (S g : Nat) : Prop := g < n ∧ may Cu S g = true ∧ ct G Lk n T S g = T S ∧ ∀ h, h < g → may Cu S h = true → ¬ ct G Lk n T S h = T S
theorem wS_min {G Lk Cu : Nat → Nat} {n : Nat} {T : Nat → Nat} {W : Nat → Int32} {S : Nat} : ∀ i g, g < i → may Cu S g = true → (wS G Lk Cu n T W S i).1 ≤ ct G Lk n T S g := by
  intro i
  induction i with
  | zero => intro g hg; omega
  | succ i ih =>
    intro g hg hm
    unfold wS
    by_cases q : g = i
    · subst q
      rw [hm, if_pos rfl]
      by_cases c1 : ct G Lk n T S g < (wS G Lk Cu n T W S g).1
      · rw [if_pos c1]; exact Nat.le_refl _
      · rw [if_neg c1]
        by_cases c2 : ct G Lk n T S g = (wS G Lk Cu n T W S g).1
        · rw [if_pos c2]; exact Nat.le_of_eq c2.symm
        · rw [if_neg c2]; omega
    · have := ih g (by omega) hm
      cases may Cu S i
      · exact this
      · rw [if_pos rfl]
        by_cases c1 : ct G Lk n T S i < (wS G Lk Cu n T W S i).1
        · rw [if_pos c1]; exact Nat.le_trans (Nat.le_of_lt c1) this
        · rw [if_neg c1]
          by_cases c2 : ct G Lk n T S i = (wS G Lk Cu n T W S i).1
          · rw [if_pos c2]; exact this
          · rw [if_neg c2]; exact this
theorem wS_at {G Lk Cu : Nat → Nat} {n : Nat} {T : Nat → Nat} {W : Nat → Int32} {S : Nat} : ∀ i, (wS G Lk Cu n T W S i).1 = 1000000 ∨ ∃ g, g < i ∧ may Cu S g = true ∧ ct G Lk n T S g = (wS G Lk Cu n T W S i).1 := by
  intro i
  induction i with
  | zero => exact Or.inl rfl
  | succ i ih =>
    have old : (wS G Lk Cu n T W S i).1 = 1000000 ∨ ∃ g, g < i + 1 ∧ may Cu S g = true ∧ ct G Lk n T S g = (wS G Lk Cu n T W S i).1 := by
      rcases ih with h | ⟨g, hg, h1, h2⟩
      · exact Or.inl h
      · exact Or.inr ⟨g, by omega, h1, h2⟩
    unfold wS
    cases hm : may Cu S i
    · exact old
    · rw [if_pos rfl]
      by_cases c1 : ct G Lk n T S i < (wS G Lk Cu n T W S i).1
      · rw [if_pos c1]; exact Or.inr ⟨i, by omega, hm, rfl⟩
      · rw [if_neg c1]
        by_cases c2 : ct G Lk n T S i = (wS G Lk Cu n T W S i).1
        · rw [if_pos c2]; exact old
        · rw [if_neg c2]; exact old
def Clo (Cu : Nat → Nat) (n S : Nat) : Prop := ∀ g, g < n → S.testBit g = true → sub (Cu g) S
theorem some_may {Cu : Nat → Nat} {n S : Nat} (hC : ∀ g, g < n → Cu g < 2 ^ n) (hr : ∃ rank : Nat → Nat, ∀ i j, i < n → j < n → (Cu i).testBit j = true → rank j < rank i) {g : Nat} (hg : g < n) (hS : S.testBit g = false) : ∃ h, h < n ∧ may Cu S h = true := by
  obtain ⟨rank, hr⟩ := hr
  have key : ∀ r g, rank g < r → g < n → S.testBit g = false → ∃ h, h < n ∧ may Cu S h = true := by
    intro r
    induction r with
    | zero => intro g h; omega
    | succ r ih =>
      intro g hrg hg hS
      by_cases q : sub (Cu g) S
      · exact ⟨g, hg, may_sub.mpr ⟨hS, q⟩⟩
      · obtain ⟨j, hj1, hj2⟩ : ∃ j, (Cu g).testBit j = true ∧ S.testBit j = false := by
          apply Classical.byContradiction
          intro hc
          apply q
          intro j hj
          cases hs : S.testBit j
          · exact absurd ⟨j, hj, hs⟩ hc
          · rfl
        have hjn : j < n := by
          rcases Nat.lt_or_ge j n with z | z
          · exact z
          · rw [bit_lt (hC g hg) z] at hj1; cases hj1
        exact ih j (by have := hr g j hg hjn hj1; omega) hjn hj2
  exact key (rank g + 1) g (by omega) hg hS
theorem pcN_not : ∀ m t, pcN m t < m → ∃ g, g < m ∧ t.testBit g = false := by
  intro m
  induction m with
  | zero => intro t h; omega
  | succ m ih =>
    intro t h
    cases hb : t.testBit m
    · exact ⟨m, by omega, hb⟩
    · unfold pcN at h
      rw [hb, if_pos rfl] at h
      obtain ⟨g, hg, h2⟩ := ih t (by omega)
      exact ⟨g, by omega, h2⟩
theorem all_al {n S : Nat} (hS : S < 2 ^ n) (h : pcN n S = n) : S = al n := by
  apply bits_ext
  intro i
  rw [al_bit]
  rcases Nat.lt_or_ge i n with q | q
  · rw [pcN_all n S h i q, decide_eq_true q]
  · rw [bit_lt hS q, decide_eq_false (by omega)]
theorem al_pc (n : Nat) : pcN n (al n) = n := by
  have : ∀ m, m ≤ n → pcN m (al n) = m := by
    intro m
    induction m with
    | zero => intro _; rfl
    | succ m ih =>
      intro hm
      unfold pcN
      rw [ih (by omega), al_bit, decide_eq_true (by omega)]; rfl
  exact this n (Nat.le_refl n)
theorem clo_or {Cu : Nat → Nat} {n S g : Nat} (hc : Clo Cu n S) (hm : may Cu S g = true) : Clo Cu n (S ||| 2 ^ g) := by
  intro x hx hxb
  rw [Nat.testBit_or, Bool.or_eq_true, Nat.testBit_two_pow, decide_eq_true_eq] at hxb
  rcases hxb with hxb | hxb
  · exact sub_tr (hc x hx hxb) (sub_ol _ _)
  · subst hxb; exact sub_tr (may_sub.mp hm).2 (sub_ol _ _)
/-- a tied ground has an order, and its cost is small -/
theorem tab_small {st : St} {n : Nat} {G Lk Cu : Nat → Nat} (hT : Tab st n G Lk Cu 0) (hC : ∀ g, g < n → Cu g < 2 ^ n) (hr : ∃ rank : Nat → Nat, ∀ i j, i < n → j < n → (Cu i).testBit j = true → rank j < rank i) : ∀ d S, pcN n S + d = n → S < 2 ^ n → Clo Cu n S → tn (st 44 S) ≤ 12 * d := by
  intro d
  induction d with
  | zero =>
    intro S h1 hS hc
    have := all_al hS (by omega)
    rw [((hT S (by omega) hS).2.1 this).1]
    omega
  | succ d ih =>
    intro S h1 hS hc
    obtain ⟨g0, hg0, hb0⟩ := pcN_not n S (by omega)
    obtain ⟨g, hg, hm⟩ := some_may hC hr hg0 hb0
    have hne : S < al n := by
      have h2 := le_al.mpr hS
      have h3 : ¬ S = al n := by intro q; rw [q, al_pc] at h1; omega
      omega
    have e := (hT S (by omega) hS).2.2 hne
    have e1 : tn (st 44 S) = (wS G Lk Cu n (fun X => tn (st 44 X)) (st 45) S n).1 := congrArg Prod.fst e
    have h4 := wS_min (n := n) (G := G) (Lk := Lk) (T := fun X => tn (st 44 X)) (W := st 45) n g hg hm
    have h5 := ih (S ||| 2 ^ g) (by rw [pcN_or (may_no hm), if_pos hg]; omega) (or_lt2 hS hg) (clo_or hc hm)
    have h6 : hq G Lk n S g ≤ 12 := pc_le _
    rw [e1]
    have h7 : (wS G Lk Cu n (fun X => tn (st 44 X)) (st 45) S n).1 ≤ hq G Lk n S g + tn (st 44 (S ||| 2 ^ g)) := h4
    omega
theorem least_wit {p : Nat → Prop} : ∀ m, p m → ∃ k, k ≤ m ∧ p k ∧ ∀ h, h < k → ¬ p h := by
  intro m
  induction m using Nat.strongRecOn with
  | ind m ih =>
    intro hp
    by_cases q : ∃ h, h < m ∧ p h
    · obtain ⟨h, hh, hp2⟩ := q
      obtain ⟨k, h1, h2, h3⟩ := ih h hh hp2
      exact ⟨k, by omega, h2, h3⟩
    · exact ⟨m, Nat.le_refl m, hp, fun h hh hp2 => q ⟨h, hh, hp2⟩⟩
theorem first_ex {st : St} {n : Nat} {G Lk Cu : Nat → Nat} (hT : Tab st n G Lk Cu 0) (hC : ∀ g, g < n → Cu g < 2 ^ n) (hr : ∃ rank : Nat → Nat, ∀ i j, i < n → j < n → (Cu i).testBit j = true → rank j < rank i) (h8 : n ≤ 8) {S : Nat} (hS : S < 2 ^ n) (hp : pcN n S < n) (hc : Clo Cu n S) : ∃ g, FR G Lk Cu n (fun X => tn (st 44 X)) S g := by
  have hsm := tab_small hT hC hr (n - pcN n S) S (by omega) hS hc
  have hne : S < al n := by
    have h2 := le_al.mpr hS
    have h3 : ¬ S = al n := by intro q; rw [q, al_pc] at hp; omega
    omega
  have e := (hT S (by omega) hS).2.2 hne
  have e1 : tn (st 44 S) = (wS G Lk Cu n (fun X => tn (st 44 X)) (st 45) S n).1 := congrArg Prod.fst e
  rcases wS_at (G := G) (Lk := Lk) (Cu := Cu) (n := n) (T := fun X => tn (st 44 X)) (W := st 45) (S := S) n with h | ⟨g, hg, hm, h2⟩
  · rw [← e1] at h; omega
  · rw [← e1] at h2
    obtain ⟨k, k1, ⟨k2, k3⟩, k4⟩ := least_wit (p := fun g => may Cu S g = true ∧ ct G Lk n (fun X => tn (st 44 X)) S g = tn (st 44 S)) g ⟨hm, h2⟩
    exact ⟨k, by omega, k2, k3, fun h hh hm2 he => k4 h hh ⟨hm2, he⟩⟩
theorem walk1_c {st : St} {N n k S g : Nat} {G Lk Cu : Nat → Nat} (K : Int32 → Int32 → St → Option St) (hN : 100 ≤ N) (hI : SI st n G Lk Cu) (hG : GSok st n G) (hT : Tab st n G Lk Cu 0) (hS : S < 2 ^ n) (hk : k < 8) (hF : FR G Lk Cu n (fun X => tn (st 44 X)) S g) : f_X3_walkFirstRow_L14 N (nI k) K N (nI S) 0 st = K (nI (S ||| 2 ^ g)) (nI g) (sU st 46 k (nI g)) := by
  obtain ⟨h1, h8, h47, h4, hb⟩ := id hI
  have h256 := p2_256 h8
  obtain ⟨f1, f2, f3, f4⟩ := hF
  have e44 : st 44 S = nI (tn (st 44 S)) := (nI_tn _).symm
  have hbd : ∀ i, i < n → ct G Lk n (fun X => tn (st 44 X)) S i < 2 ^ 31 := fun i hi => by
    have a1 : hq G Lk n S i ≤ 12 := pc_le _
    have a2 : tn (st 44 (S ||| 2 ^ i)) ≤ 1000000 := (hT _ (by omega) (or_lt2 hS hi)).1
    show hq G Lk n S i + tn (st 44 (S ||| 2 ^ i)) < 2 ^ 31
    omega
  have hSb : tn (st 44 S) < 2 ^ 31 := by have := (hT S (by omega) hS).1; omega
  refine loopF (fun fuel (_ : Unit) i => f_X3_walkFirstRow_L14 N (nI k) K fuel (nI S) i st) (fun _ => K (nI (S ||| 2 ^ g)) (nI g) (sU st 46 k (nI g))) g (fun _ => ()) (fun i fuel hi => ?_) (fun fuel => ?_) g 0 N (by omega) (by omega)
  · show f_X3_walkFirstRow_L14 N (nI k) K (fuel + 1) (nI S) (nI i) st = f_X3_walkFirstRow_L14 N (nI k) K fuel (nI S) (nI (i + 1)) st
    have hin : i < n := by omega
    rw [f_X3_walkFirstRow_L14, h47, if_neg (nI_ge hin (by omega)), mayF_c hI hin, bd1_s, nI_1]
    cases hm : may Cu S i
    · simp only [b2i_f, if_true]
    · simp only [b2i_t, if_false]
      rw [cost_t (T := fun X => tn (st 44 X)) hI hG hS hin (nI_tn _).symm, bd1_s, ck_nI (by omega) (by omega), e44, if_neg (fun q => f4 i hi hm (nI_inj (hbd i hin) hSb q))]
  · show f_X3_walkFirstRow_L14 N (nI k) K (fuel + 1) (nI S) (nI g) st = _
    rw [f_X3_walkFirstRow_L14, h47, if_neg (nI_ge f1 (by omega)), mayF_c hI f1, bd1_s, f2]
    simp only [b2i_t, if_false]
    rw [cost_t (T := fun X => tn (st 44 X)) hI hG hS f1 (nI_tn _).symm, bd1_s, ck_nI (by omega) (by omega), e44, if_pos (by rw [f3]), sto_nI (by omega) (by omega), bnd_s, nI_bit (by omega), nI_or]
theorem rs_congr {r r' : Nat → Nat} : ∀ i, (∀ j, j < i → r j = r' j) → rs r i = rs r' i := by
  intro i
  induction i with
  | zero => intro _; rfl
  | succ i ih =>
    intro h
    rw [rs, rs, ih (fun j hj => h j (by omega)), h i (by omega)]
theorem walk_c {N n : Nat} {G Lk Cu : Nat → Nat} (hN : 100 ≤ N) (hr : ∃ rank : Nat → Nat, ∀ i j, i < n → j < n → (Cu i).testBit j = true → rank j < rank i) : ∀ d k fuel S st, k + d = n → d < fuel → SI st n G Lk Cu → GSok st n G → Tab st n G Lk Cu 0 → S < 2 ^ n → pcN n S = k → Clo Cu n S → S = rs (fun j => tn (st 46 j)) k → ∃ st', f_X3_walkFirstRow_L4 N (fun _ _ st_17 => some st_17) fuel (nI S) (nI k) st = some st' ∧ (∀ c, ¬ c = 46 → st' c = st c) ∧ (∀ j, j < k → st' 46 j = st 46 j) ∧ (∀ j, k ≤ j → j < n → FR G Lk Cu n (fun X => tn (st 44 X)) (rs (fun j => tn (st' 46 j)) j) (tn (st' 46 j))) := by
  intro d
  induction d with
  | zero =>
    intro k fuel S st h1 h2 hI hG hT hS hp hc hrs
    obtain ⟨fuel, rfl⟩ : ∃ f, fuel = f + 1 := ⟨fuel - 1, by omega⟩
    obtain ⟨q1, q8, h47, -⟩ := id hI
    rw [f_X3_walkFirstRow_L4, h47, if_pos (nI_le (show n ≤ k by omega) (by omega))]
    exact ⟨st, rfl, fun _ _ => rfl, fun _ _ => rfl, fun j a b => by omega⟩
  | succ d ih =>
    intro k fuel S st h1 h2 hI hG hT hS hp hc hrs
    obtain ⟨fuel, rfl⟩ : ∃ f, fuel = f + 1 := ⟨fuel - 1, by omega⟩
    obtain ⟨q1, q8, h47, h4, hb⟩ := id hI
    have hC : ∀ g, g < n → Cu g < 2 ^ n := fun g hg => (hb g hg).2.2
    obtain ⟨g, hF⟩ := first_ex hT hC hr q8 hS (by omega) hc
    have hg := hF.1
    have hm := hF.2.1
    rw [f_X3_walkFirstRow_L4, h47, if_neg (nI_ge (show k < n by omega) (by omega)), walk1_c _ hN hI hG hT hS (by omega) hF, nI_1]
    have hE : ∀ c, ¬ c = 46 → sU st 46 k (nI g) c = st c := fun c hc => sU_ne _ _ _ hc
    have e46 : ∀ j, j < k → sU st 46 k (nI g) 46 j = st 46 j := fun j hj => by rw [sU_eq, upd_ne _ _ (by omega)]
    have e46k : sU st 46 k (nI g) 46 k = nI g := by rw [sU_eq, upd_eq]
    have hTT : Tab (sU st 46 k (nI g)) n G Lk Cu 0 := by
      unfold Tab
      rw [hE 44 (by omega), hE 45 (by omega)]
      exact hT
    obtain ⟨st', z1, z2, z3, z4⟩ := ih (k + 1) fuel (S ||| 2 ^ g) (sU st 46 k (nI g)) (by omega) (by omega) (hI.congr (fun c hc => hE c (by omega))) (fun X hX => by rw [hE 43 (by omega)]; exact hG X hX) hTT (or_lt2 hS hg) (by rw [pcN_or (may_no hm), if_pos hg, hp]) (clo_or hc hm) (by
      rw [rs, rs_congr (r' := fun j => tn (st 46 j)) k (fun j hj => by rw [e46 j hj]), ← hrs, e46k, tn_nI (by omega)])
    refine ⟨st', z1, fun c hc => (z2 c hc).trans (hE c hc), fun j hj => (z3 j (by omega)).trans (e46 j hj), fun j a b => ?_⟩
    by_cases q : j = k
    · subst q
      have ek : st' 46 j = nI g := (z3 j (by omega)).trans e46k
      rw [rs_congr (r' := fun j => tn (st 46 j)) j (fun l hl => by rw [z3 l (by omega), e46 l hl]), ← hrs, ek, tn_nI (by omega)]
      exact hF
    · have := z4 j (by omega) b
      rw [hE 44 (by omega)] at this
      exact this
