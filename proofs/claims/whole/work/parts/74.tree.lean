/-! the reference's search as a whole -/
theorem next_u {st : St} {N n w mask k c L S i : Nat} (hO : GO n w (st 0)) (hN : 100 ≤ N) (hk : k < n) (h8 : st 8 k = nI c) (hL : st 10 2 = nI L) (hc1 : c ≤ 1000) (hL1 : L ≤ 1000) (hi : i ≤ n) : ∃ g, i ≤ g ∧ g ≤ n ∧ (∀ j, i ≤ j → j < g → ¬ Pn (st 0) n mask c L S j) ∧ (g < n → Pn (st 0) n mask c L S g) ∧ ∀ K, f_X6_search_L76 N (nI mask) (nI n) (nI k) (nI S) st K N (nI i) = K (nI g) := by
  have hn := hO.1
  obtain ⟨g, a1, a2, a3, a4, -⟩ := next_m (mask := mask) (S := S) (fun _ => none) hO hN hk h8 hL hc1 hL1 (n - i) i N (by omega) (by omega)
  refine ⟨g, a1, a2, a3, a4, fun K => ?_⟩
  obtain ⟨g', b1, b2, b3, b4, b5⟩ := next_m (mask := mask) (S := S) K hO hN hk h8 hL hc1 hL1 (n - i) i N (by omega) (by omega)
  rw [b5]
  have : g' = g := by
    rcases Nat.lt_trichotomy g g' with q | q | q
    · exact absurd (a4 (by omega)) (b3 g a1 q)
    · exact q.symm
    · exact absurd (b4 (by omega)) (a3 g' b1 q)
  rw [this]
def TB (a : Nat → Int32) (n mask : Nat) (T : Nat → Nat) (V : Nat → Int32) : Prop := T (al n) = 0 ∧ V (al n) = 1 ∧ ∀ S, S < al n → (T S, V S) = wS (tkG a mask) (tkL a mask) (cN a) n T V S n
/-- a fresh node -/
def Nod (a : Nat → Int32) (N n mask : Nat) (T : Nat → Nat) (V : Nat → Int32) (K : Int32 → Int32 → St → Option St) (d : Nat) : Prop := ∀ k S c L st, k + d = n → st 0 = a → st 8 k = nI c → c ≤ 12 * k → st 10 2 = nI L → L ≤ 1000 → st 9 k = -1 → S < 2 ^ n → pcN n S = k → S = rs (fun j => tn (st 7 j)) k → ∃ u st', u ≤ tm d ∧ (∀ f, f_X6_search_L38 N (nI mask) (nI n) K (u + f) (nI k) (nI S) st = f_X6_search_L38 N (nI mask) (nI n) K f (xI k) (nI S) st') ∧ Res L c (T S) (V S) (FN (tkG a mask) (tkL a mask) (cN a) n T k (st 7)) st st' ∧ Frm k st st'
theorem child_m {a : Nat → Int32} {N n w mask d k S c L g : Nat} {T : Nat → Nat} {V : Nat → Int32} {K : Int32 → Int32 → St → Option St} {st : St} (hO : GO n w a) (hN : 100 ≤ N) (hTB : TB a n mask T V) (ih : 0 < d → Nod a N n mask T V K d) (hkd : k + 1 + d = n) (e0 : st 0 = a) (h8 : st 8 k = nI c) (hcb : c ≤ 12 * k) (hL : st 10 2 = nI L) (hL1 : L ≤ 1000) (hS : S < 2 ^ n) (hp : pcN n S = k) (hrs : S = rs (fun j => tn (st 7 j)) k) (hg : g < n) (hP : Pn a n mask c L S g) : ∃ u s1 s2, u ≤ tm d ∧ (∀ f, Bd N mask n K (u + f) k S st (nI g) = f_X6_search_L38 N (nI mask) (nI n) K f (nI k) (nI (S ||| 2 ^ g)) s2) ∧ Res L (c + hq (tkG a mask) (tkL a mask) n S g) (T (S ||| 2 ^ g)) (V (S ||| 2 ^ g)) (FN (tkG a mask) (tkL a mask) (cN a) n T (k + 1) (s1 7)) s1 s2 ∧ Frm k st s2 ∧ s1 10 3 = st 10 3 ∧ s1 6 = st 6 ∧ (∀ j, j < k → s1 7 j = st 7 j) ∧ tn (s1 7 k) = g ∧ s2 9 k = nI g := by
  have hn := hO.1
  have hm := hP.1
  have hle := hc_le a n g S mask
  have hqe : hq (tkG a mask) (tkL a mask) n S g = hc a n g S mask := hq_hc hO (fun i hi => ⟨rfl, rfl⟩) hg
  rw [hqe]
  have hk : k < n := by omega
  have hin : ∀ fuel, Bd N mask n K fuel k S st (nI g) = _ := fun fuel => into_m (w := w) (mask := mask) (K := K) (fuel := fuel) (S := S) (by rw [e0]; exact hO) hN hk hg h8
  rw [e0] at hin
  generalize hs1 : sU (sU (sU st 9 k (nI g)) 7 k (nI g)) 8 (k + 1) (nI (c + hc a n g S mask)) = s1 at hin
  have q0 : ∀ q, ¬ q = 7 → ¬ q = 8 → ¬ q = 9 → s1 q = st q := fun q a7 a8 a9 => by rw [← hs1, sU_ne _ _ _ a8, sU_ne _ _ _ a7, sU_ne _ _ _ a9]
  have q7 : s1 7 = upd (st 7) k (nI g) := by rw [← hs1, sU_ne _ _ _ (by omega), sU_eq, sU_ne _ _ _ (by omega)]
  have q8 : s1 8 = upd (st 8) (k + 1) (nI (c + hc a n g S mask)) := by rw [← hs1, sU_eq, sU_ne _ _ _ (by omega), sU_ne _ _ _ (by omega)]
  have q9 : s1 9 = upd (st 9) k (nI g) := by rw [← hs1, sU_ne _ _ _ (by omega), sU_ne _ _ _ (by omega), sU_eq]
  have fr1 : Frm k st s1 := ⟨fun q hq => q0 q (by omega) (by omega) (by omega), by rw [q0 10 (by omega) (by omega) (by omega)], by rw [q0 10 (by omega) (by omega) (by omega)], fun j hj => ⟨by rw [q7, upd_ne _ _ (by omega)], by rw [q9, upd_ne _ _ (by omega)]⟩, fun j hj => by rw [q8, upd_ne _ _ (by omega)]⟩
  have g7 : ∀ j, j < k → s1 7 j = st 7 j := fun j hj => by rw [q7, upd_ne _ _ (by omega)]
  have g7k : tn (s1 7 k) = g := by rw [q7, upd_eq, tn_nI (by omega)]
  have e3 : s1 10 3 = st 10 3 := by rw [q0 10 (by omega) (by omega) (by omega)]
  have e6 : s1 6 = st 6 := q0 6 (by omega) (by omega) (by omega)
  have hL2 : s1 10 2 = nI L := by rw [q0 10 (by omega) (by omega) (by omega)]; exact hL
  have hp2 : pcN n (S ||| 2 ^ g) = k + 1 := by rw [pcN_or (may_no hm), if_pos hg, hp]
  by_cases hd : d = 0
  · subst hd
    have hkn : k + 1 = n := by omega
    have hal := all_al (or_lt2 hS hg) (by rw [hp2]; exact hkn)
    obtain ⟨s2, t1, t2, t3, t4, t5, t6, t7⟩ := take_m (st := s1) (n := n) hN hn hL2 hL1 hP.2
    refine ⟨0, s1, s2, Nat.le_refl 0, fun f => ?_, ?_, ?_, e3, e6, g7, g7k, ?_⟩
    · rw [hin, if_pos hkn, t1, bd1_s, Nat.zero_add]
    · rw [hal, hTB.1, hTB.2.1]
      refine ⟨fun y => ⟨t5, (t6 y).1, fun j hj => (t6 y).2 j (by omega), fun j x1 x2 => by omega⟩, fun y => ?_, fun y => ?_⟩
      · have y2 : c + hc a n g S mask = L := y
        rw [← y2]
        exact ⟨t5, (t7 y2).1, (t7 y2).2⟩
      · have := hP.2
        omega
    · refine fr1.tr ⟨fun q hq => t2 q (by omega) (by omega), t3, t4, fun j hj => ⟨by rw [t2 7 (by omega) (by omega)], by rw [t2 9 (by omega) (by omega)]⟩, fun j hj => by rw [t2 8 (by omega) (by omega)]⟩
    · rw [t2 9 (by omega) (by omega), q9, upd_eq]
  · have hkn : ¬ k + 1 = n := by omega
    have p0 : ∀ q, ¬ q = 9 → sU s1 9 (k + 1) (-1) q = s1 q := fun q a9 => sU_ne _ _ _ a9
    obtain ⟨u, s2, r1, r2, r3, r4⟩ := ih (by omega) (k + 1) (S ||| 2 ^ g) (c + hc a n g S mask) L (sU s1 9 (k + 1) (-1)) hkd (by rw [p0 0 (by omega), q0 0 (by omega) (by omega) (by omega)]; exact e0) (by rw [p0 8 (by omega), q8, upd_eq]) (by omega) (by rw [p0 10 (by omega)]; exact hL2) hL1 (by rw [sU_eq, upd_eq]) (or_lt2 hS hg) hp2 (by
      rw [rs, rs_congr (r' := fun j => tn (st 7 j)) k (fun j hj => by rw [p0 7 (by omega), g7 j hj]), ← hrs, p0 7 (by omega), g7k])
    rw [p0 7 (by omega)] at r3
    refine ⟨u, s1, s2, r1, fun f => ?_, ?_, ?_, e3, e6, g7, g7k, ?_⟩
    · rw [hin, if_neg hkn, r2 f]; rfl
    · unfold Res at r3 ⊢
      rw [p0 10 (by omega), p0 6 (by omega)] at r3
      exact r3
    · obtain ⟨x1, x2, x3, x4, x5⟩ := r4
      refine fr1.tr ⟨fun q hq => by rw [x1 q hq, p0 q (by omega)], by rw [x2, p0 10 (by omega)], by rw [x3, p0 10 (by omega)], fun j hj => ⟨by rw [(x4 j (by omega)).1, p0 7 (by omega)], by rw [(x4 j (by omega)).2, sU_eq, upd_ne _ _ (by omega)]⟩, fun j hj => by rw [x5 j (by omega), p0 8 (by omega)]⟩
    · rw [(r4.2.2.2.1 k (by omega)).2, sU_eq, upd_ne _ _ (by omega), q9, upd_eq]
