/-! one round of the reference's search -/
def tm : Nat → Nat
  | 0 => 0
  | d + 1 => 10 * (1 + tm d) + 1
def Frm (k : Nat) (st st' : St) : Prop := (∀ q, q < 6 → st' q = st q) ∧ st' 10 0 = st 10 0 ∧ st' 10 1 = st 10 1 ∧ (∀ j, j < k → st' 7 j = st 7 j ∧ st' 9 j = st 9 j) ∧ (∀ j, j ≤ k → st' 8 j = st 8 j)
theorem Frm.rf (k : Nat) (st : St) : Frm k st st := ⟨fun _ _ => rfl, rfl, rfl, fun _ _ => ⟨rfl, rfl⟩, fun _ _ => rfl⟩
theorem Frm.tr {k : Nat} {a b c : St} (h : Frm k a b) (h2 : Frm k b c) : Frm k a c := by
  obtain ⟨x1, x2, x3, x4, x5⟩ := h
  obtain ⟨y1, y2, y3, y4, y5⟩ := h2
  exact ⟨fun q hq => (y1 q hq).trans (x1 q hq), y2.trans x2, y3.trans x3, fun j hj => ⟨(y4 j hj).1.trans (x4 j hj).1, (y4 j hj).2.trans (x4 j hj).2⟩, fun j hj => (y5 j hj).trans (x5 j hj)⟩
theorem Frm.dn {k : Nat} {a b : St} (h : Frm (k + 1) a b) : Frm k a b := by
  obtain ⟨x1, x2, x3, x4, x5⟩ := h
  exact ⟨x1, x2, x3, fun j hj => x4 j (by omega), fun j hj => x5 j (by omega)⟩
def Bd (N mask n : Nat) (K : Int32 → Int32 → St → Option St) (fuel k S : Nat) (st : St) : Int32 → Option St := fun z => if z = nI n then f_X6_search_L38 N (nI mask) (nI n) K fuel (nI k + (-1)) (nI S) st else sto 10 st 9 (nI k) z fun s1 => sto 10 s1 7 (nI k) z fun s2 => ck 11 (nI k) fun j => bd1 (f_X6_holesOf N s2 z (nI S) (nI mask)) fun r => sto 11 s2 8 (nI k + 1) ((s2 8 j) + r) fun s3 => bnd (nI S ||| ((1 : Int32) <<< (z &&& 31))) fun v => if nI k + 1 = nI n then ck 11 (nI n) fun j2 => bd1 (f_X6_take N s3 (s3 8 j2) (nI n)) fun s4 => f_X6_search_L38 N (nI mask) (nI n) K fuel (nI k) v s4 else sto 10 s3 9 (nI k + 1) (-1 : Int32) fun s4 => f_X6_search_L38 N (nI mask) (nI n) K fuel (nI k + 1) v s4
/-- where the search stands at depth k: all below i have been tried -/
def At (st : St) (k i S S' n : Nat) : Prop := (st 9 k = -1 ∧ i = 0 ∧ S' = S) ∨ ∃ t, t < n ∧ st 9 k = nI t ∧ i = t + 1 ∧ S' = S ||| 2 ^ t ∧ S.testBit t = false
theorem round_m {N mask n k i S S' fuel : Nat} {K : Int32 → Int32 → St → Option St} {st : St} (hn : n ≤ 10) (hk : k < n) (h : At st k i S S' n) : f_X6_search_L38 N (nI mask) (nI n) K (fuel + 1) (nI k) (nI S') st = f_X6_search_L76 N (nI mask) (nI n) (nI k) (nI S) st (Bd N mask n K fuel k S st) N (nI i) := by
  have ck10 : ∀ {β : Type} (K : Nat → Option β), ck 10 (nI k) K = K k := fun K => ck_nI (by omega) (by omega)
  rw [f_X6_search_L38, if_neg (nI_pos (by omega))]
  simp only [ck10, bnd_s]
  rcases h with ⟨h9, rfl, rfl⟩ | ⟨t, ht, h9, rfl, rfl, hb⟩
  · rw [h9, if_pos (show (-1 : Int32) < 0 by decide), show (-1 : Int32) + 1 = nI 0 by decide]
    rfl
  · rw [h9, if_neg (nI_pos (by omega)), show nI t + 1 = nI (t + 1) by rw [nI_1], nI_bit (by omega), nI_andnot]
    have e : (S ||| 2 ^ t) &&& ((S ||| 2 ^ t) ^^^ ((S ||| 2 ^ t) &&& 2 ^ t)) = S := by
      apply bits_ext
      intro b
      simp only [Nat.testBit_and, Nat.testBit_xor, Nat.testBit_or, Nat.testBit_two_pow]
      by_cases q : t = b
      · subst q; rw [hb, decide_eq_true rfl]; rfl
      · rw [decide_eq_false q]
        cases S.testBit b <;> rfl
    rw [e]
    rfl
/-- it goes into g -/
theorem into_m {N mask n w k S g c fuel : Nat} {K : Int32 → Int32 → St → Option St} {st : St} (hO : GO n w (st 0)) (hN : 100 ≤ N) (hk : k < n) (hg : g < n) (h8 : st 8 k = nI c) : Bd N mask n K fuel k S st (nI g) = (if k + 1 = n then bd1 (f_X6_take N (sU (sU (sU st 9 k (nI g)) 7 k (nI g)) 8 (k + 1) (nI (c + hc (st 0) n g S mask))) (nI (c + hc (st 0) n g S mask)) (nI n)) fun s4 => f_X6_search_L38 N (nI mask) (nI n) K fuel (nI k) (nI (S ||| 2 ^ g)) s4 else f_X6_search_L38 N (nI mask) (nI n) K fuel (nI (k + 1)) (nI (S ||| 2 ^ g)) (sU (sU (sU (sU st 9 k (nI g)) 7 k (nI g)) 8 (k + 1) (nI (c + hc (st 0) n g S mask))) 9 (k + 1) (-1))) := by
  have hn := hO.1
  unfold Bd
  have e0 : sU (sU st 9 k (nI g)) 7 k (nI g) 0 = st 0 := by rw [sU_ne _ _ _ (by omega), sU_ne _ _ _ (by omega)]
  have hO2 : GO n w (sU (sU st 9 k (nI g)) 7 k (nI g) 0) := by rw [e0]; exact hO
  have e8 : sU (sU st 9 k (nI g)) 7 k (nI g) 8 k = nI c := by rw [sU_ne _ _ _ (by omega), sU_ne _ _ _ (by omega)]; exact h8
  rw [if_neg (show ¬ nI g = nI n from fun q => by have := nI_inj (by omega) (by omega) q; omega), sto_nI (by omega) (by omega), sto_nI (by omega) (by omega), ck_nI (by omega) (by omega), holesOf_m hO2 hN hg, bd1_s, e0, e8, nI_add, nI_1, sto_nI (by omega) (by omega), nI_bit (by omega), nI_or, bnd_s]
  by_cases q : k + 1 = n
  · rw [if_pos q, if_pos (by rw [q]), ck_nI (by omega) (by omega), sU_eq]
    subst q
    rw [upd_eq]
  · rw [if_neg q, if_neg (show ¬ nI (k + 1) = nI n from fun z => q (nI_inj (by omega) (by omega) z)), sto_nI (by omega) (by omega)]
