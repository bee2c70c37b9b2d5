/-! loops that count up -/
theorem loopF {β σ : Type} (L : Nat → σ → Int32 → Option β) (K : σ → Option β) (n : Nat) (F : Nat → σ) (hstep : ∀ i fuel, i < n → L (fuel + 1) (F i) (nI i) = L fuel (F (i + 1)) (nI (i + 1))) (hend : ∀ fuel, L (fuel + 1) (F n) (nI n) = K (F n)) : ∀ d i fuel, i + d = n → d < fuel → L fuel (F i) (nI i) = K (F n) := by
  intro d
  induction d with
  | zero =>
    intro i fuel h1 h2
    obtain ⟨fuel, rfl⟩ : ∃ f, fuel = f + 1 := ⟨fuel - 1, by omega⟩
    have : i = n := by omega
    subst this
    exact hend fuel
  | succ d ih =>
    intro i fuel h1 h2
    obtain ⟨fuel, rfl⟩ : ∃ f, fuel = f + 1 := ⟨fuel - 1, by omega⟩
    rw [hstep i fuel (by omega)]
    exact ih (i + 1) fuel (by omega) (by omega)
def tn (x : Int32) : Nat := x.toBitVec.toNat
theorem nI_tn (x : Int32) : nI (tn x) = x := by
  apply Int32.toBitVec_inj.mp
  show BitVec.ofNat 32 x.toBitVec.toNat = x.toBitVec
  simp
theorem tn_nI {t : Nat} (h : t < 2 ^ 32) : tn (nI t) = t := pk_tn h
theorem bt_tn (x : Int32) (i : Nat) : bt x i = (tn x).testBit i := rfl
/-- the sets of a row of graves, as numbers -/
def cN (a : Nat → Int32) (k : Nat) : Nat := tn (a (62 + k))
def gN (a : Nat → Int32) (k : Nat) : Nat := tn (a (32 + k))
theorem cN_eq (a : Nat → Int32) (k : Nat) : a (62 + k) = nI (cN a k) := (nI_tn _).symm
theorem gN_eq (a : Nat → Int32) (k : Nat) : a (32 + k) = nI (gN a k) := (nI_tn _).symm
theorem GO.cN_lt {n w : Nat} {a : Nat → Int32} (h : GO n w a) {k : Nat} (hk : k < n) : cN a k < 2 ^ n := by
  obtain ⟨t, ht, e⟩ := (h.at 6 (by omega) hk).2.2.2.2.2.2 rfl
  have hn := h.1
  have : 2 ^ n ≤ 2 ^ 10 := Nat.pow_le_pow_right (by omega) hn
  have e2 : a (62 + k) = nI t := e
  unfold cN
  rw [e2, tn_nI (by omega)]
  exact ht
theorem pow_le10 {n : Nat} (h : n ≤ 10) : 2 ^ n ≤ 1024 := Nat.pow_le_pow_right (i := n) (j := 10) (by omega) h
theorem GO.cN_lt' {n w : Nat} {a : Nat → Int32} (h : GO n w a) {k : Nat} (hk : k < n) : cN a k < 1024 := Nat.lt_of_lt_of_le (h.cN_lt hk) (pow_le10 h.1)
theorem GO.gN_lt {n w : Nat} {a : Nat → Int32} (h : GO n w a) {k : Nat} (hk : k < n) : gN a k < 4096 := by
  obtain ⟨t, ht, e⟩ := (h.at 3 (by omega) hk).2.2.2.1 rfl
  have e2 : a (32 + k) = nI t := e
  unfold gN
  rw [e2, tn_nI (by omega)]
  exact ht
def sm (f : Nat → Nat) : Nat → Nat
  | 0 => 0
  | n + 1 => sm f n + f n
theorem count_c {cs ms : St} {N n w : Nat} (hG : GR cs 0 (ms 0)) (hO : GO n w (ms 0)) (hN : 100 ≤ N) : f_X2_countCuts N cs = some (nI (sm (fun k => pc (cN (ms 0) k)) n)) := by
  have hn := hO.1
  have e0 : cs 13 0 = nI n := hG.1.trans hO.2.2.1
  unfold f_X2_countCuts
  refine loopF (fun fuel s i => f_X2_countCuts_L4 N cs (fun a_5 _ => some a_5) fuel s i) (fun s => some s) n (fun i => nI (sm (fun k => pc (cN (ms 0) k)) i)) (fun i fuel hi => ?_) (fun fuel => ?_) n 0 N (by omega) (by omega)
  · show f_X2_countCuts_L4 N cs _ (fuel + 1) _ _ = _
    rw [f_X2_countCuts_L4, e0, if_neg (nI_ge hi (by omega)), ck_nI (by omega) (by omega)]
    simp only [bnd_s]
    have e6 : cs 6 i = nI (cN (ms 0) i) := (hG.at 6 (by omega) (by omega)).trans (cN_eq _ _)
    rw [e6, bc_nI (by have := hO.cN_lt' hi; omega), nI_add, nI_1]
    rfl
  · show f_X2_countCuts_L4 N cs _ (fuel + 1) _ _ = _
    rw [f_X2_countCuts_L4, e0, if_pos (nI_le (Nat.le_refl n) (by omega))]
theorem count_m {ms : St} {N n w : Nat} {x1 : Int32} (K : Int32 → Int32 → Option (Int32 × St)) (hO : GO n w (ms 0)) (hN : 100 ≤ N) : f_X6_told_L20 N x1 ms K N 0 0 = K (nI (sm (fun k => pc (cN (ms 0) k)) n)) (nI n) := by
  have hn := hO.1
  have e0 : ms 0 0 = nI n := hO.2.2.1
  refine loopF (fun fuel s i => f_X6_told_L20 N x1 ms K fuel s i) (fun s => K s (nI n)) n (fun i => nI (sm (fun k => pc (cN (ms 0) k)) i)) (fun i fuel hi => ?_) (fun fuel => ?_) n 0 N (by omega) (by omega)
  · show f_X6_told_L20 N x1 ms K (fuel + 1) _ _ = _
    rw [f_X6_told_L20, e0, if_neg (nI_ge hi (by omega)), ck_62 (by omega) (by omega), cN_eq (ms 0) i, many_nI (by omega) (by have := hO.cN_lt' hi; omega), bd1_s]
    simp only [bnd_s]
    rw [nI_add, nI_1]
    rfl
  · show f_X6_told_L20 N x1 ms K (fuel + 1) _ _ = _
    rw [f_X6_told_L20, e0, if_pos (nI_le (Nat.le_refl n) (by omega))]
theorem i32_cases4 {x : Int32} (h : f_X6_within x 0 3 = true) : x = 0 ∨ x = 1 ∨ x = 2 ∨ x = 3 := by
  obtain ⟨k, hk, rfl⟩ := w_nI (m := 4) (by omega) (by decide) h
  rcases (show k = 0 ∨ k = 1 ∨ k = 2 ∨ k = 3 by omega) with rfl | rfl | rfl | rfl
  · exact Or.inl rfl
  · exact Or.inr (Or.inl rfl)
  · exact Or.inr (Or.inr (Or.inl rfl))
  · exact Or.inr (Or.inr (Or.inr rfl))
theorem s_told {SO : St → Prop} (hSO : SOk SO) {N : Nat} (hN : 100 ≤ N) : ∀ cs ms, Rel SO cs ms → ∀ (a1 : Int32), StepI (Rel SO) (f_X5_told N cs a1) (f_X6_told N ms a1) := by
  intro cs ms hR a1
  obtain ⟨hG, ⟨n, w, hO⟩, ⟨-, hfi⟩, -⟩ := id hR
  unfold f_X5_told f_X6_told
  simp only [bnd_s]
  cases h : f_X6_within a1 0 3
  · have h0 : ¬ a1 = 0 := fun e => by subst e; exact absurd h (by decide)
    have h1 : ¬ a1 = 1 := fun e => by subst e; exact absurd h (by decide)
    have h2 : ¬ a1 = 2 := fun e => by subst e; exact absurd h (by decide)
    have h3 : ¬ a1 = 3 := fun e => by subst e; exact absurd h (by decide)
    rw [if_neg h0, if_neg h1, if_neg h2, if_neg h3]
    simp only [b2i_f, if_true]; exact fin_step hSO hR _
  · simp only [b2i_t, if_false]
    rw [count_m _ hO hN]
    rcases i32_cases4 h with rfl | rfl | rfl | rfl
    · rw [if_pos rfl, if_pos rfl, hG.1]; exact ⟨_, _, _, rfl, rfl, hR⟩
    · rw [if_neg (by decide), if_pos rfl, if_neg (by decide), if_pos rfl, count_c hG hO hN]; exact ⟨_, _, _, rfl, rfl, hR⟩
    · rw [if_neg (by decide), if_neg (by decide), if_pos rfl, if_neg (by decide), if_neg (by decide), if_pos rfl, hfi]; exact ⟨_, _, _, rfl, rfl, hR⟩
    · rw [if_neg (by decide), if_neg (by decide), if_neg (by decide), if_pos rfl, if_neg (by decide), if_neg (by decide), if_neg (by decide)]
      have e : cs 13 1 = ms 0 1 := hG.2.1
      rw [e]; exact ⟨_, _, _, rfl, rfl, hR⟩
/-! kinds -/
def isK (t u : Nat) : Bool := decide (u = 0) || decide (t = u) || (decide (u = 1) && decide (t = 3))
theorem kind_c {cs : St} {m k t u : Nat} (e : cs 0 k = nI t) (ht : t < 4) (hu : u < 4) : f_X1_isOfKind (m + 5) cs k (nI u) = some (isK t u) := by
  unfold f_X1_isOfKind
  rw [bnd_s, e]
  rcases (show t = 0 ∨ t = 1 ∨ t = 2 ∨ t = 3 by omega) with rfl | rfl | rfl | rfl <;> rcases (show u = 0 ∨ u = 1 ∨ u = 2 ∨ u = 3 by omega) with rfl | rfl | rfl | rfl <;> rfl
theorem kind_N {cs : St} {N k t u : Nat} (hN : 100 ≤ N) (e : cs 0 k = nI t) (ht : t < 4) (hu : u < 4) : f_X1_isOfKind N cs k (nI u) = some (isK t u) := by
  obtain ⟨m, rfl⟩ : ∃ m, N = m + 5 := ⟨N - 5, by omega⟩
  exact kind_c e ht hu
theorem GO.kind {n w : Nat} {a : Nat → Int32} (h : GO n w a) {k : Nat} (hk : k < n) : ∃ t, t < 4 ∧ a (2 + k) = nI t := (h.at 0 (by omega) hk).1 rfl
theorem s_as {SO : St → Prop} (hSO : SOk SO) {N : Nat} (hN : 100 ≤ N) : ∀ cs ms, Rel SO cs ms → ∀ (a1 a2 : Int32), StepI (Rel SO) (f_X5_as N cs a1 a2) (f_X6_as ms a1 a2) := by
  intro cs ms hR a1 a2
  obtain ⟨hG, ⟨n, w, hO⟩, -⟩ := id hR
  have hn := hO.1
  unfold f_X5_as f_X6_as
  simp only [bnd_s, isKind_w]
  rcases gr_cases hG.1 hO.2.2.1 hn a1 with ⟨e1, e2⟩ | ⟨e1, e2, k, hk, rfl⟩
  · rw [e1, e2]; simp only [b2i_f, if_true]; exact fin_step hSO hR _
  · rw [e1, e2]; simp only [b2i_t, if_false]
    cases h : f_X6_within a2 0 3
    · simp only [b2i_f, if_true]; exact fin_step hSO hR _
    · simp only [b2i_t, if_false]
      obtain ⟨u, hu, rfl⟩ := w_nI (m := 4) (by omega) (by decide) h
      obtain ⟨t, ht, et⟩ := hO.kind hk
      have ek : cs 0 k = nI t := (hG.at 0 (by omega) (by omega)).trans et
      rw [ck_nI (by omega) (by omega), ck_2 (by omega) (by omega), kind_N hN ek ht hu, bd1_s, et]
      rcases (show t = 0 ∨ t = 1 ∨ t = 2 ∨ t = 3 by omega) with rfl | rfl | rfl | rfl <;> rcases (show u = 0 ∨ u = 1 ∨ u = 2 ∨ u = 3 by omega) with rfl | rfl | rfl | rfl <;> first | exact ⟨_, _, _, rfl, rfl, hR⟩ | exact fin_step hSO hR _
theorem s_coin {SO : St → Prop} (hSO : SOk SO) {N : Nat} (hN : 100 ≤ N) : ∀ cs ms, Rel SO cs ms → ∀ (a1 a2 : Int32), StepI (Rel SO) (f_X5_coin N cs a1 a2) (f_X6_coin ms a1 a2) := by
  intro cs ms hR a1 a2
  obtain ⟨hG, ⟨n, w, hO⟩, -⟩ := id hR
  have hn := hO.1
  unfold f_X5_coin f_X6_coin
  simp only [bnd_s, isYear_w]
  rcases gr_cases hG.1 hO.2.2.1 hn a1 with ⟨e1, e2⟩ | ⟨e1, e2, k, hk, rfl⟩
  · rw [e1, e2]; simp only [b2i_f, if_true]; exact fin_step hSO hR _
  · rw [e1, e2]; simp only [b2i_t, if_false]
    cases h : f_X6_isYear a2
    · simp only [b2i_f, if_true]; exact fin_step hSO hR _
    · simp only [b2i_t, if_false]
      obtain ⟨t, ht, et⟩ := hO.kind hk
      have ek : cs 0 k = nI t := (hG.at 0 (by omega) (by omega)).trans et
      rw [ck_nI (by omega) (by omega), ck_2 (by omega) (by omega), et]
      have hk3 := kind_N (u := 3) hN ek ht (by omega)
      rw [show f_X1_isOfKind N cs k 3 = some (isK t 3) from hk3, bd1_s]
      by_cases h3 : t = 3
      · subst h3
        have e5 : cs 5 k = ms 0 (52 + k) := hG.at 5 (by omega) (by omega)
        have e4 : cs 4 k = ms 0 (42 + k) := hG.at 4 (by omega) (by omega)
        rw [show isK 3 3 = true from rfl, if_pos (show nI 3 = (3 : Int32) from rfl), ck_52 (by omega) (by omega), e5]
        simp only [b2i_t, if_false]
        by_cases hy : a2 ≤ ms 0 (52 + k)
        · rw [if_pos hy, if_pos hy, ck_42 (by omega) (by omega), sto_42 (by omega) (by omega), ck_42 (by omega) (by omega), e4]
          have hv : vld n 4 (imax (ms 0 (42 + k)) a2) := by
            have q := (hO.at 4 (by omega) hk).2.2.2.2.1 rfl
            have q2 : -5000 ≤ (ms 0 (42 + k)).toInt ∧ (ms 0 (42 + k)).toInt ≤ 5000 := q
            refine ⟨by omega, by omega, by omega, by omega, fun _ => ?_, by omega, by omega⟩
            unfold imax
            split
            · exact yr_of h
            · exact q2
          refine ⟨_, _, _, rfl, ?_, wr_step (f0 := 4) (k0 := k) hSO hR hO (by omega) (by omega) (by omega) (fun _ => hv)⟩
          rw [sU_eq, sU_eq, upd_eq, upd_eq]
        · rw [if_neg hy, if_neg hy]; exact fin_step hSO hR _
      · rw [show isK t 3 = false from by unfold isK; simp [h3], if_neg (show ¬ nI t = (3 : Int32) from fun q => h3 (nI_inj (b := 3) (by omega) (by omega) q))]
        simp only [b2i_f, if_true]; exact fin_step hSO hR _
