/-! the class takes in what it searches -/
theorem gS_0 (G : Nat → Nat) (n : Nat) : gS G n 0 = 0 := by
  refine Nat.eq_of_testBit_eq (fun b => ?_)
  rw [Nat.zero_testBit]
  cases q : (gS G n 0).testBit b
  · rfl
  · obtain ⟨i, hi, h1, -⟩ := (guQ_bit _ _ b _).mp q
    rw [Nat.zero_testBit] at h1; cases h1
theorem top_bit {k x i : Nat} (hx : x < 2 ^ k) : (2 ^ k + x).testBit i = (decide (i = k) || x.testBit i) := by
  have h := Nat.two_pow_add_eq_or_of_lt hx 1
  rw [Nat.mul_one] at h
  rw [h, Nat.testBit_or, Nat.testBit_two_pow]
  by_cases q : i = k
  · subst q; simp
  · rw [decide_eq_false q, decide_eq_false (fun z => q z.symm)]
theorem gS_top {G : Nat → Nat} {n k x : Nat} (hk : k < n) (hx : x < 2 ^ k) : gS G n (2 ^ k + x) = gS G n x ||| G k := by
  apply sub_eq
  · intro b hb
    obtain ⟨i, hi, h1, h2⟩ := (guQ_bit _ _ b _).mp hb
    rw [top_bit hx, Bool.or_eq_true, decide_eq_true_eq] at h1
    rw [Nat.testBit_or, Bool.or_eq_true]
    rcases h1 with h1 | h1
    · subst h1; exact Or.inr h2
    · exact Or.inl ((guQ_bit _ _ b _).mpr ⟨i, hi, h1, h2⟩)
  · refine sub_or (fun b hb => ?_) (fun b hb => ?_)
    · obtain ⟨i, hi, h1, h2⟩ := (guQ_bit _ _ b _).mp hb
      exact (guQ_bit _ _ b _).mpr ⟨i, hi, by rw [top_bit hx, h1, Bool.or_true], h2⟩
    · exact (guQ_bit _ _ b _).mpr ⟨k, hk, by rw [top_bit hx, decide_eq_true rfl]; rfl, hb⟩
def tb (f : Nat → Int32) (G : Nat → Nat) (n k j : Nat) : Nat → Int32 := fun X => if X < 2 ^ k + j then nI (gS G n X) else f X
theorem tb_s (f : Nat → Int32) (G : Nat → Nat) (n k j : Nat) : upd (tb f G n k j) (2 ^ k + j) (nI (gS G n (2 ^ k + j))) = tb f G n k (j + 1) := by
  funext X
  unfold upd tb
  by_cases h : X = 2 ^ k + j
  · subst h; rw [if_pos rfl, if_pos (by omega)]
  · rw [if_neg h]
    by_cases h2 : X < 2 ^ k + j
    · rw [if_pos h2, if_pos (by omega)]
    · rw [if_neg h2, if_neg (by omega)]
theorem tb_top (f : Nat → Int32) (G : Nat → Nat) (n k : Nat) : tb f G n k (2 ^ k) = tb f G n (k + 1) 0 := by
  funext X
  unfold tb
  rw [show 2 ^ (k + 1) + 0 = 2 ^ k + 2 ^ k by rw [Nat.pow_succ]; omega]
theorem join1_c {st : St} {N n k : Nat} {G Lk Cu : Nat → Nat} (K : Int32 → St → Option St) (hN : 1000 ≤ N) (hI : SI st n G Lk Cu) (hk : k < n) : f_X3_joinGoods_L16 N (nI k) (nI (2 ^ k)) K N 0 (sF st 43 (tb (st 43) G n k 0)) = K (nI (2 ^ k)) (sF st 43 (tb (st 43) G n k (2 ^ k))) := by
  obtain ⟨h1, h8, h47, h4, hb⟩ := id hI
  have h256 := p2_256 h8
  have hkk := p2_lt hk
  have hk2 : 2 ^ (k + 1) ≤ 2 ^ n := Nat.pow_le_pow_right (by omega) hk
  rw [Nat.pow_succ] at hk2
  refine loopF (fun fuel s j => f_X3_joinGoods_L16 N (nI k) (nI (2 ^ k)) K fuel j s) (fun s => K (nI (2 ^ k)) s) (2 ^ k) (fun j => sF st 43 (tb (st 43) G n k j)) (fun j fuel hj => ?_) (fun fuel => ?_) (2 ^ k) 0 N (by omega) (by omega)
  · show f_X3_joinGoods_L16 N (nI k) (nI (2 ^ k)) K (fuel + 1) (nI j) _ = _
    rw [f_X3_joinGoods_L16, if_neg (nI_ge hj (by omega)), ck_nI (by omega) (by omega), ck_nI (by omega) (by omega), nI_add, sto_nI (by omega) (by omega), sF_eq, sF_ne _ _ (show ¬ 40 = 43 by omega), (h4 k hk).1, nI_1]
    have e : tb (st 43) G n k j j = nI (gS G n j) := by unfold tb; rw [if_pos (by have := Nat.two_pow_pos k; omega)]
    rw [e, nI_or, ← gS_top hk hj, sU_sF, tb_s]
  · show f_X3_joinGoods_L16 N (nI k) (nI (2 ^ k)) K (fuel + 1) (nI (2 ^ k)) _ = _
    rw [f_X3_joinGoods_L16, if_pos (nI_le (Nat.le_refl _) (by omega))]
theorem join_c {st : St} {N n : Nat} {G Lk Cu : Nat → Nat} (hN : 1000 ≤ N) (hI : SI st n G Lk Cu) (h0 : st 43 0 = 0) : ∃ st', f_X3_joinGoods N st = some st' ∧ (∀ c, ¬ c = 43 → st' c = st c) ∧ GSok st' n G ∧ st' 43 0 = 0 := by
  obtain ⟨h1, h8, h47, h4, hb⟩ := id hI
  have h256 := p2_256 h8
  refine ⟨sF st 43 (tb (st 43) G n n 0), ?_, fun c hc => sF_ne _ _ hc, fun X hX => ?_, ?_⟩
  · unfold f_X3_joinGoods
    have h := loopF (fun fuel s j => f_X3_joinGoods_L2 N (fun _ st_10 => some st_10) fuel j s) (fun s => some s) n (fun k => sF st 43 (tb (st 43) G n k 0)) (fun k fuel hk => ?_) (fun fuel => ?_) n 0 N (by omega) (by omega)
    · have e : sF st 43 (tb (st 43) G n 0 0) = st := by
        have : tb (st 43) G n 0 0 = st 43 := by
          funext X
          unfold tb
          by_cases q : X < 2 ^ 0 + 0
          · have : X = 0 := by omega
            subst this
            rw [if_pos q, gS_0, h0]; rfl
          · rw [if_neg q]
        rw [this, sF_self]
      rw [e] at h
      exact h
    · show f_X3_joinGoods_L2 N _ (fuel + 1) (nI k) _ = _
      rw [f_X3_joinGoods_L2, sF_ne _ _ (show ¬ 47 = 43 by omega), h47, if_neg (nI_ge hk (by omega)), bnd_s, nI_bit (by omega), join1_c _ hN hI hk, tb_top, nI_1]
    · show f_X3_joinGoods_L2 N _ (fuel + 1) (nI n) _ = _
      rw [f_X3_joinGoods_L2, sF_ne _ _ (show ¬ 47 = 43 by omega), h47, if_pos (nI_le (Nat.le_refl n) (by omega))]
  · rw [sF_eq]; unfold tb; rw [if_pos (by omega)]
  · rw [sF_eq]; unfold tb
    rw [if_pos (by have := Nat.two_pow_pos n; omega), gS_0]; rfl
/-! taking in -/
def tkG (a : Nat → Int32) (mask i : Nat) : Nat := gN a i &&& mask
def tkL (a : Nat → Int32) (mask i : Nat) : Nat := lkN a i &&& mask
def tkS (st : St) (a : Nat → Int32) (mask i : Nat) : St := sF (sF (sF st 40 (cpF (fun j => nI (tkG a mask j)) (st 40) i)) 41 (cpF (fun j => nI (tkL a mask j)) (st 41) i)) 42 (cpF (fun j => nI (cN a j)) (st 42) i)
def tkF (st : St) (a : Nat → Int32) (mask : Nat) (b : Bool) : Nat → Bool
  | 0 => b
  | i + 1 => tkF st a mask b i || !(decide (st 40 i = nI (tkG a mask i)) && (decide (st 41 i = nI (tkL a mask i)) && decide (st 42 i = nI (cN a i))))
theorem tkS_ne (st : St) (a : Nat → Int32) (mask i : Nat) {c : Nat} (h : ¬ (40 ≤ c ∧ c ≤ 42)) : tkS st a mask i c = st c := by
  unfold tkS; rw [sF_ne _ _ (by omega), sF_ne _ _ (by omega), sF_ne _ _ (by omega)]
theorem tkS_40 (st : St) (a : Nat → Int32) (mask i : Nat) : tkS st a mask i 40 = cpF (fun j => nI (tkG a mask j)) (st 40) i := by
  unfold tkS; rw [sF_ne _ _ (by omega), sF_ne _ _ (by omega), sF_eq]
theorem tkS_41 (st : St) (a : Nat → Int32) (mask i : Nat) : tkS st a mask i 41 = cpF (fun j => nI (tkL a mask j)) (st 41) i := by
  unfold tkS; rw [sF_ne _ _ (by omega), sF_eq]
theorem tkS_42 (st : St) (a : Nat → Int32) (mask i : Nat) : tkS st a mask i 42 = cpF (fun j => nI (cN a j)) (st 42) i := by
  unfold tkS; rw [sF_eq]
theorem tkS_0 (st : St) (a : Nat → Int32) (mask : Nat) : tkS st a mask 0 = st := by
  unfold tkS
  rw [cpF_0, cpF_0, cpF_0, sF_self, sF_self, sF_self]
theorem tkS_s (st : St) (a : Nat → Int32) (mask i : Nat) : sU (sU (sU (tkS st a mask i) 40 i (nI (tkG a mask i))) 41 i (nI (tkL a mask i))) 42 i (nI (cN a i)) = tkS st a mask (i + 1) := by
  funext c
  by_cases h2 : c = 42
  · subst h2
    rw [sU_eq, sU_ne _ _ _ (by omega), sU_ne _ _ _ (by omega), tkS_42, tkS_42]
    exact cpF_s (fun j => nI (cN a j)) (st 42) i
  · rw [sU_ne _ _ _ h2]
    by_cases h1 : c = 41
    · subst h1
      rw [sU_eq, sU_ne _ _ _ (by omega), tkS_41, tkS_41]
      exact cpF_s (fun j => nI (tkL a mask j)) (st 41) i
    · rw [sU_ne _ _ _ h1]
      by_cases h0 : c = 40
      · subst h0
        rw [sU_eq, tkS_40, tkS_40]
        exact cpF_s (fun j => nI (tkG a mask j)) (st 40) i
      · rw [sU_ne _ _ _ h0, tkS_ne _ _ _ _ (by omega), tkS_ne _ _ _ _ (by omega)]
theorem cpF_at (f g : Nat → Int32) (i : Nat) : cpF f g i i = g i := by unfold cpF; rw [if_neg (by omega)]
theorem take_loop {st ms : St} {N n w mask : Nat} {b : Bool} (K : Int32 → Int32 → St → Option (Bool × St)) (hG : GR st 0 (ms 0)) (hO : GO n w (ms 0)) (hN : 100 ≤ N) (h8 : n ≤ 8) (h47 : st 47 0 = nI n) : f_X3_takeIn_L33 N (nI mask) K N (b2i b) 0 st = K (b2i (tkF st (ms 0) mask b n)) (nI n) (tkS st (ms 0) mask n) := by
  have h := loopF (fun fuel (s : Int32 × St) i => f_X3_takeIn_L33 N (nI mask) K fuel s.1 i s.2) (fun s => K s.1 (nI n) s.2) n (fun i => (b2i (tkF st (ms 0) mask b i), tkS st (ms 0) mask i)) (fun i fuel hi => ?_) (fun fuel => ?_) n 0 N (by omega) (by omega)
  · simp only [tkS_0] at h
    exact h
  · show f_X3_takeIn_L33 N (nI mask) K (fuel + 1) (b2i (tkF st (ms 0) mask b i)) (nI i) (tkS st (ms 0) mask i) = f_X3_takeIn_L33 N (nI mask) K fuel (b2i (tkF st (ms 0) mask b i || !(decide (st 40 i = nI (tkG (ms 0) mask i)) && (decide (st 41 i = nI (tkL (ms 0) mask i)) && decide (st 42 i = nI (cN (ms 0) i)))))) (nI (i + 1)) (tkS st (ms 0) mask (i + 1))
    have hG' : GR (tkS st (ms 0) mask i) 0 (ms 0) := hG.congr (fun c hc _ => tkS_ne _ _ _ _ (by omega)) rfl
    have e3 : tkS st (ms 0) mask i 3 i = nI (gN (ms 0) i) := (hG'.at 3 (by omega) (by omega)).trans (gN_eq _ _)
    have e6 : tkS st (ms 0) mask i 6 i = nI (cN (ms 0) i) := (hG'.at 6 (by omega) (by omega)).trans (cN_eq _ _)
    have ck8 : ∀ {β : Type} (K : Nat → Option β), ck 8 (nI i) K = K i := fun K => ck_nI (by omega) (by omega)
    have st8 : ∀ {β : Type} (s : St) (c : Nat) (v : Int32) (K : St → Option β), sto 8 s c (nI i) v K = K (sU s c i v) := fun s c v K => sto_nI (by omega) (by omega)
    rw [f_X3_takeIn_L33, tkS_ne _ _ _ _ (show ¬ (40 ≤ 47 ∧ 47 ≤ 42) by omega), h47, if_neg (nI_ge hi (by omega)), ck_nI (by omega) (by omega), bnd_s, lacked_c hG' hO hN hi, bd1_s, bnd_s, e3, nI_and, nI_and]
    simp only [ck8, st8]
    have n6 : sU (sU (tkS st (ms 0) mask i) 40 i (nI (gN (ms 0) i &&& mask))) 41 i (nI (lkN (ms 0) i &&& mask)) 6 i = nI (cN (ms 0) i) := by
      rw [sU_ne _ _ _ (by omega), sU_ne _ _ _ (by omega)]; exact e6
    have fin : sU (sU (sU (tkS st (ms 0) mask i) 40 i (nI (gN (ms 0) i &&& mask))) 41 i (nI (lkN (ms 0) i &&& mask))) 42 i (nI (cN (ms 0) i)) = tkS st (ms 0) mask (i + 1) := tkS_s st (ms 0) mask i
    rw [n6, e6, fin, tkS_40, tkS_41, tkS_42, cpF_at, cpF_at, cpF_at, nI_1]
    show (if st 40 i = nI (tkG (ms 0) mask i) then if st 41 i = nI (tkL (ms 0) mask i) then if st 42 i = nI (cN (ms 0) i) then _ else _ else _ else _) = _
    by_cases c0 : st 40 i = nI (tkG (ms 0) mask i)
    · rw [if_pos c0, decide_eq_true c0]
      by_cases c1 : st 41 i = nI (tkL (ms 0) mask i)
      · rw [if_pos c1, decide_eq_true c1]
        by_cases c2 : st 42 i = nI (cN (ms 0) i)
        · rw [if_pos c2, decide_eq_true c2, Bool.true_and, Bool.true_and, Bool.not_true, Bool.or_false]
        · rw [if_neg c2, decide_eq_false c2, Bool.and_false, Bool.and_false, Bool.not_false, Bool.or_true]; rfl
      · rw [if_neg c1, decide_eq_false c1, Bool.false_and, Bool.and_false, Bool.not_false, Bool.or_true]; rfl
    · rw [if_neg c0, decide_eq_false c0, Bool.false_and, Bool.not_false, Bool.or_true]; rfl
  · show f_X3_takeIn_L33 N (nI mask) K (fuel + 1) _ (nI n) (tkS st (ms 0) mask n) = _
    rw [f_X3_takeIn_L33, tkS_ne _ _ _ _ (show ¬ (40 ≤ 47 ∧ 47 ≤ 42) by omega), h47, if_pos (nI_le (Nat.le_refl n) (by omega))]
