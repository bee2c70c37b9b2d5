/-! the reference's borders -/
theorem sum_m {ms : St} {N n w X : Nat} {r : Nat → Nat} {x1 : Int32} (K : Int32 → Int32 → Option St) (hO : GO n w (ms 0)) (hN : 100 ≤ N) (h1 : 1 ≤ n) (hr : ∀ j, j < n → r j < n ∧ ms 6 j = nI (r j)) (hX : X.testBit 0 = false) : f_X6_part_L44 N x1 (nI X) ms K N 0 1 = K (nI (scN (gc (ms 0) n r) X n)) (nI n) := by
  have hn := hO.1
  have e0 : ms 0 0 = nI n := hO.2.2.1
  have hh := loopG (fun fuel s j => f_X6_part_L44 N x1 (nI X) ms K fuel s j) (fun s => K s (nI n)) n 1 (fun j => nI (scN (gc (ms 0) n r) X j)) (fun j fuel hk hj => by
    show f_X6_part_L44 N x1 (nI X) ms K (fuel + 1) _ _ = f_X6_part_L44 N x1 (nI X) ms K fuel (nI (scN (gc (ms 0) n r) X j + (if X.testBit j then gc (ms 0) n r j else 0))) _
    rw [f_X6_part_L44, e0, if_neg (nI_ge hj (by omega)), b_tst _ (by omega), nI_bt (by omega), nI_1, go_m hO hN hr (by omega), bd1_s, bnd_s, bnd_s, nI_add]
    simp only [b2i_1]
    cases X.testBit j
    · rw [if_neg (by decide)]
      show f_X6_part_L44 N x1 (nI X) ms K fuel (nI (scN (gc (ms 0) n r) X j) + nI 0) _ = _
      rw [nI_add]; rfl
    · rw [if_pos rfl]; rfl) (fun fuel => by
    show f_X6_part_L44 N x1 (nI X) ms K (fuel + 1) _ _ = _
    rw [f_X6_part_L44, e0, if_pos (nI_le (Nat.le_refl n) (by omega))]) (n - 1) 1 N (Nat.le_refl _) (by omega) (by omega)
  have z : scN (gc (ms 0) n r) X 1 = 0 := by
    show 0 + (if X.testBit 0 then gc (ms 0) n r 0 else 0) = 0
    rw [hX]; rfl
  rw [z] at hh
  exact hh
def PI (ms st : St) (c : Nat → Nat) (n k B t : Nat) : Prop := (∀ q, ¬ q = 10 → st q = ms q) ∧ (∀ j, j < 4 → st 10 j = ms 10 j) ∧ (B < 2 * t → st 10 4 = nI (scN c B n) ∧ st 10 5 = nI B) ∧ (2 * t ≤ B → (st 10 4 = 1000 ∧ st 10 5 = 0) ∨ ∃ Y, Y < 2 ^ n ∧ Y.testBit 0 = false ∧ pcN n Y = k ∧ ¬ Y = B ∧ st 10 4 = nI (scN c Y n) ∧ st 10 5 = nI Y)
theorem pcq_n {X n : Nat} (h : X < 2 ^ n) (hn : n ≤ 12) : pc X = pcN n X := by
  unfold pc
  have z := pcN_big h (12 - n)
  rw [show n + (12 - n) = 12 by omega] at z
  exact z
theorem ev_bit (t : Nat) : (2 * t).testBit 0 = false := by
  rw [Nat.testBit_zero, decide_eq_false_iff_not]; omega
theorem bit_ev {B : Nat} (h : B.testBit 0 = false) : B % 2 = 0 := by
  rw [Nat.testBit_zero, decide_eq_false_iff_not] at h; omega
theorem part_step {ms st : St} {c : Nat → Nat} {n k B t : Nat} (h : PI ms st c n k B t) (hne : ¬ 2 * t = B) (hev : B % 2 = 0) : PI ms st c n k B (t + 1) := by
  obtain ⟨p1, p2, p3, p4⟩ := h
  exact ⟨p1, p2, fun q => p3 (by omega), fun q => p4 (by omega)⟩
theorem part_take {ms st : St} {c : Nat → Nat} {n k B t : Nat} (h : PI ms st c n k B t) (hX : 2 * t < 2 ^ n) (hp : pcN n (2 * t) = k) (hw : 2 * t ≤ B) (hev : B % 2 = 0) : PI ms (sU (sU st 10 4 (nI (scN c (2 * t) n))) 10 5 (nI (2 * t))) c n k B (t + 1) := by
  obtain ⟨p1, p2, p3, p4⟩ := h
  have e4 : sU (sU st 10 4 (nI (scN c (2 * t) n))) 10 5 (nI (2 * t)) 10 4 = nI (scN c (2 * t) n) := by rw [sU_eq, upd_ne _ _ (show ¬ (4 : Nat) = 5 by omega), sU_eq, upd_eq]
  have e5 : sU (sU st 10 4 (nI (scN c (2 * t) n))) 10 5 (nI (2 * t)) 10 5 = nI (2 * t) := by rw [sU_eq, upd_eq]
  refine ⟨fun q hq => by rw [sU_ne _ _ _ hq, sU_ne _ _ _ hq]; exact p1 q hq, fun j hj => by rw [sU_eq, upd_ne _ _ (show ¬ j = 5 by omega), sU_eq, upd_ne _ _ (show ¬ j = 4 by omega)]; exact p2 j hj, fun q => ?_, fun q => ?_⟩
  · rw [e4, e5]
    have e : 2 * t = B := by omega
    rw [e]; exact ⟨rfl, rfl⟩
  · exact Or.inr ⟨2 * t, hX, ev_bit t, hp, by omega, e4, e5⟩
theorem nIq_nlt {a b : Nat} (h : b ≤ a) (ha : a < 2 ^ 31) : ¬ nI a < nI b := by
  rw [i32_lt, nI_toInt ha, nI_toInt (by omega)]; omega
theorem part_loop {ms : St} {N n w k B H : Nat} {r : Nat → Nat} (hO : GO n w (ms 0)) (hN : 1000 ≤ N) (h1 : 1 ≤ n) (h8 : n ≤ 8) (hH : 2 * H = 2 ^ n) (hkn : k < n) (hr : ∀ j, j < n → r j < n ∧ ms 6 j = nI (r j)) (hB : GB (gc (ms 0) n r) n B k) : ∀ d t fuel st, t + d = H → d < fuel → PI ms st (gc (ms 0) n r) n k B t → ∃ st', f_X6_part_L14 N (nI (k + 1)) (fun _ st_24 => some st_24) fuel (nI (2 * t)) st = some st' ∧ PI ms st' (gc (ms 0) n r) n k B H := by
  have hn := hO.1
  have e0 : ms 0 0 = nI n := hO.2.2.1
  have h256 := p2_256 h8
  obtain ⟨b1, b2, b3, b4⟩ := hB
  have hev := bit_ev b2
  have hcl : ∀ X, scN (gc (ms 0) n r) X n ≤ 12 * n := fun X => sc_le (gc_le (ms 0) n r) n
  have win : ∀ X, X < 2 ^ n → X.testBit 0 = false → pcN n X = k → ¬ X = B → ∃ b, b < n ∧ (∀ i, i < b → B.testBit i = X.testBit i) ∧ ¬ B.testBit b = X.testBit b ∧ (scN (gc (ms 0) n r) B n < scN (gc (ms 0) n r) X n ∨ (scN (gc (ms 0) n r) B n = scN (gc (ms 0) n r) X n ∧ B.testBit b = true ∧ X.testBit b = false)) := fun X hX hX0 hXp hne => by
    refine greedy_wins b1 hX (fun i j hi hj hbi hbj hxj => b4 i j hbi ?_ hj hbj) (b3.trans hXp.symm) hne
    rcases Nat.eq_zero_or_pos j with z | z
    · rw [z, hX0] at hxj; cases hxj
    · exact z
  intro d
  induction d with
  | zero =>
    intro t fuel st hd h2 hI
    obtain ⟨fuel, rfl⟩ : ∃ f, fuel = f + 1 := ⟨fuel - 1, by omega⟩
    have : t = H := by omega
    subst this
    rw [f_X6_part_L14, hI.1 0 (by omega), e0, nI_bit (by omega), if_pos (nI_le (show 2 ^ n ≤ 2 * t by omega) (by omega))]
    exact ⟨st, rfl, hI⟩
  | succ d ih =>
    intro t fuel st hd h2 hI
    obtain ⟨fuel, rfl⟩ : ∃ f, fuel = f + 1 := ⟨fuel - 1, by omega⟩
    have hX : 2 * t < 2 ^ n := by omega
    have hX0 := ev_bit t
    have es0 : st 0 = ms 0 := hI.1 0 (by omega)
    have es6 : st 6 = ms 6 := hI.1 6 (by omega)
    have hsum : ∀ K : Int32 → Int32 → Option St, f_X6_part_L44 N (nI (k + 1)) (nI (2 * t)) st K N 0 1 = K (nI (scN (gc (ms 0) n r) (2 * t) n)) (nI n) := fun K => by
      have z := sum_m (ms := st) (N := N) (n := n) (w := w) (X := 2 * t) (r := r) (x1 := nI (k + 1)) K (by rw [es0]; exact hO) (by omega) h1 (by rw [es6]; exact hr) hX0
      rw [es0] at z
      exact z
    have e2 : nI (2 * t) + (2 : Int32) = nI (2 * (t + 1)) := by
      show nI (2 * t) + nI 2 = _
      rw [nI_add]; rfl
    have hs := hcl (2 * t)
    have hsB := hcl B
    rw [f_X6_part_L14, es0, e0, nI_bit (by omega), if_neg (nI_ge hX (by omega)), many_nI (by omega) (by omega), bd1_s, nI_pred, pcq_n hX (by omega), hsum]
    simp only [bnd_s, e2]
    have hple := pcN_le n (2 * t)
    by_cases hp : pcN n (2 * t) = k
    · rw [if_pos (show nI (pcN n (2 * t)) = nI k by rw [hp])]
      by_cases hXB : 2 * t = B
      · have take : ∃ st', f_X6_part_L14 N (nI (k + 1)) (fun _ st_24 => some st_24) fuel (nI (2 * (t + 1))) (sU (sU st 10 4 (nI (scN (gc (ms 0) n r) (2 * t) n))) 10 5 (nI (2 * t))) = some st' ∧ PI ms st' (gc (ms 0) n r) n k B H := ih (t + 1) fuel _ (by omega) (by omega) (part_take hI hX hp (by omega) hev)
        rcases hI.2.2.2 (by omega) with ⟨a4, a5⟩ | ⟨Y, y1, y2, y3, y4, y5, y6⟩
        · rw [a4, if_pos (show nI (scN (gc (ms 0) n r) (2 * t) n) < (1000 : Int32) from nI_lt (b := 1000) (by omega) (by omega))]
          exact take
        · obtain ⟨b, c1, c2, c3, c4⟩ := win Y y1 y2 y3 y4
          rw [y5, y6, hXB]
          rw [hXB] at take
          have hsY := hcl Y
          rcases c4 with c4 | ⟨c4, c5, c6⟩
          · rw [if_pos (nI_lt c4 (by omega))]
            exact take
          · rw [if_neg (nIq_nlt (show scN (gc (ms 0) n r) Y n ≤ scN (gc (ms 0) n r) B n by omega) (by omega)), if_pos (show nI (scN (gc (ms 0) n r) B n) = nI (scN (gc (ms 0) n r) Y n) by rw [c4]), early (by omega) (by omega) (by omega) c3 c2, c5]
            simp only [b2i_t, if_false]
            exact take
      · have skip : ∃ st', f_X6_part_L14 N (nI (k + 1)) (fun _ st_24 => some st_24) fuel (nI (2 * (t + 1))) st = some st' ∧ PI ms st' (gc (ms 0) n r) n k B H := ih (t + 1) fuel st (by omega) (by omega) (part_step hI hXB hev)
        rcases Nat.lt_or_ge B (2 * t) with q | q
        · obtain ⟨a4, a5⟩ := hI.2.2.1 q
          obtain ⟨b, c1, c2, c3, c4⟩ := win (2 * t) hX hX0 hp hXB
          rw [a4, a5]
          rcases c4 with c4 | ⟨c4, c5, c6⟩
          · rw [if_neg (nIq_nlt (show scN (gc (ms 0) n r) B n ≤ scN (gc (ms 0) n r) (2 * t) n by omega) (by omega)), if_neg (show ¬ nI (scN (gc (ms 0) n r) (2 * t) n) = nI (scN (gc (ms 0) n r) B n) from fun z => by have := nI_inj (by omega) (by omega) z; omega)]
            exact skip
          · rw [if_neg (nIq_nlt (show scN (gc (ms 0) n r) B n ≤ scN (gc (ms 0) n r) (2 * t) n by omega) (by omega)), if_pos (show nI (scN (gc (ms 0) n r) (2 * t) n) = nI (scN (gc (ms 0) n r) B n) by rw [c4]), early (by omega) (by omega) (by omega) (fun z => c3 z.symm) (fun i hi => (c2 i hi).symm), c6]
            simp only [b2i_f, if_true]
            exact skip
        · have take : ∃ st', f_X6_part_L14 N (nI (k + 1)) (fun _ st_24 => some st_24) fuel (nI (2 * (t + 1))) (sU (sU st 10 4 (nI (scN (gc (ms 0) n r) (2 * t) n))) 10 5 (nI (2 * t))) = some st' ∧ PI ms st' (gc (ms 0) n r) n k B H := ih (t + 1) fuel _ (by omega) (by omega) (part_take hI hX hp q hev)
          by_cases q1 : nI (scN (gc (ms 0) n r) (2 * t) n) < st 10 4
          · rw [if_pos q1]; exact take
          · rw [if_neg q1]
            by_cases q2 : nI (scN (gc (ms 0) n r) (2 * t) n) = st 10 4
            · rw [if_pos q2]
              cases f_X6_isEarlier (nI (2 * t)) (st 10 5)
              · simp only [b2i_f, if_true]; exact skip
              · simp only [b2i_t, if_false]; exact take
            · rw [if_neg q2]; exact skip
    · rw [if_neg (show ¬ nI (pcN n (2 * t)) = nI k from fun z => hp (nI_inj (by omega) (by omega) z))]
      refine ih (t + 1) fuel st (by omega) (by omega) (part_step hI (fun z => hp ?_) hev)
      rw [z]; exact b3
theorem part_m {ms : St} {N n w k B : Nat} {r : Nat → Nat} (hO : GO n w (ms 0)) (hN : 1000 ≤ N) (h1 : 1 ≤ n) (h8 : n ≤ 8) (hkn : k < n) (hr : ∀ j, j < n → r j < n ∧ ms 6 j = nI (r j)) (hB : GB (gc (ms 0) n r) n B k) : ∃ ms', f_X6_part N ms (nI (k + 1)) = some ms' ∧ (∀ q, ¬ q = 10 → ms' q = ms q) ∧ (∀ j, j < 4 → ms' 10 j = ms 10 j) ∧ ms' 10 4 = nI (scN (gc (ms 0) n r) B n) ∧ ms' 10 5 = nI B := by
  have h256 := p2_256 h8
  obtain ⟨m, rfl⟩ : ∃ m, n = m + 1 := ⟨n - 1, by omega⟩
  have hH : 2 * 2 ^ m = 2 ^ (m + 1) := by rw [Nat.pow_succ]; omega
  unfold f_X6_part
  simp only [bnd_s]
  obtain ⟨st', z1, z2⟩ := part_loop (N := N) hO hN h1 h8 hH hkn hr hB (2 ^ m) 0 N (sU (sU ms 10 4 1000) 10 5 0) (by omega) (by omega) ⟨fun q hq => by rw [sU_ne _ _ _ hq, sU_ne _ _ _ hq], fun j hj => by rw [sU_eq, upd_ne _ _ (show ¬ j = 5 by omega), sU_eq, upd_ne _ _ (show ¬ j = 4 by omega)], fun q => by omega, fun _ => Or.inl ⟨by rw [sU_eq, upd_ne _ _ (show ¬ (4 : Nat) = 5 by omega), sU_eq, upd_eq], by rw [sU_eq, upd_eq]⟩⟩
  obtain ⟨p1, p2, p3, -⟩ := z2
  have hb := hB.1
  obtain ⟨p3, p4⟩ := p3 (by omega)
  exact ⟨st', z1, p1, p2, p3, p4⟩
/-! where a stretch begins -/
theorem begin_0 {st : St} {N n : Nat} (h8 : n ≤ 8) (h50 : st 50 0 = nI n) : ∀ d p fuel cnt, p + d = n → d < fuel → cnt ≤ p → f_X0_beginOf_L4 N 0 st (fun _ _ => some 0) fuel (nI cnt) (nI p) = some 0 := by
  intro d
  induction d with
  | zero =>
    intro p fuel cnt hd h2 _
    obtain ⟨fuel, rfl⟩ : ∃ f, fuel = f + 1 := ⟨fuel - 1, by omega⟩
    have : p = n := by omega
    subst this
    rw [f_X0_beginOf_L4, h50, if_pos (nI_le (Nat.le_refl p) (by omega))]
  | succ d ih =>
    intro p fuel cnt hd h2 hc
    obtain ⟨fuel, rfl⟩ : ∃ f, fuel = f + 1 := ⟨fuel - 1, by omega⟩
    rw [f_X0_beginOf_L4, h50, if_neg (nI_ge (show p < n by omega) (by omega)), ck_nI (by omega) (by omega), nI_1, nI_1, if_neg (show ¬ nI (cnt + 1) = (0 : Int32) from nI_ne0 (by omega) (by omega))]
    by_cases q : st 49 p = 0
    · rw [if_pos q]; exact ih (p + 1) fuel cnt (by omega) (by omega) (by omega)
    · rw [if_neg q]; exact ih (p + 1) fuel (cnt + 1) (by omega) (by omega) (by omega)
theorem begin_both {st ms : St} {N n B : Nat} (h8 : n ≤ 8) (h50 : st 50 0 = nI n) (h49 : ∀ j, j < n → st 49 j = b2i (B.testBit j)) (h5 : ms 10 5 = nI B) (K : Int32 → Int32 → Option (Int32 × St)) : ∀ d p fuel fuel' cnt y, p + 1 + d = n → d < fuel → d + 1 < fuel' → cnt = pcN (p + 1) B → cnt ≤ p → cnt + (y + 1) ≤ pcN n B → ∃ v z, f_X0_beginOf_L4 N (nI (cnt + (y + 1))) st (fun _ _ => some 0) fuel (nI cnt) (nI (p + 1)) = some v ∧ f_X6_border_L53 N ms K fuel' (nI (y + 1)) (nI p) = K z v := by
  intro d
  induction d with
  | zero =>
    intro p fuel fuel' cnt y hd h2 h3 hc _ hy
    have : p + 1 = n := by omega
    rw [this] at hc
    omega
  | succ d ih =>
    intro p fuel fuel' cnt y hd h2 h3 hc hcp hy
    obtain ⟨fuel, rfl⟩ : ∃ f, fuel = f + 1 := ⟨fuel - 1, by omega⟩
    obtain ⟨fuel', rfl⟩ : ∃ f, fuel' = f + 1 := ⟨fuel' - 1, by omega⟩
    have hp : p + 1 < n := by omega
    have hle := pcN_le n B
    have hs : pcN (p + 1 + 1) B = pcN (p + 1) B + (if B.testBit (p + 1) then 1 else 0) := rfl
    rw [f_X0_beginOf_L4, h50, if_neg (nI_ge hp (by omega)), ck_nI (by omega) (by omega), h49 _ hp, f_X6_border_L53, if_neg (show ¬ nI (y + 1) ≤ (0 : Int32) from nI_ge (a := 0) (by omega) (by omega)), h5, nI_1, nI_1, nI_1, b_tst _ (by omega), nI_bt (by omega), bnd_s]
    cases hb : B.testBit (p + 1)
    · rw [hb] at hs
      simp only [b2i_f, if_true]
      have e : nI (y + 1) - b2i false = nI (y + 1) := by
        show nI (y + 1) - 0 = _
        exact Int32.sub_zero _
      rw [e]
      exact ih (p + 1) fuel fuel' cnt y (by omega) (by omega) (by omega) (by rw [hs]; exact hc) (by omega) hy
    · rw [hb] at hs
      have hs' : pcN (p + 1 + 1) B = cnt + 1 := by rw [hs, hc]; rfl
      simp only [b2i_t, if_false]
      have e : nI (y + 1) - b2i true = nI y := nI_pred y
      rw [e]
      by_cases hz : y = 0
      · subst hz
        rw [if_pos (show nI (cnt + 1) = nI (cnt + (0 + 1)) from rfl)]
        obtain ⟨fuel', rfl⟩ : ∃ f, fuel' = f + 1 := ⟨fuel' - 1, by omega⟩
        rw [f_X6_border_L53, if_pos (show nI 0 ≤ (0 : Int32) by decide)]
        exact ⟨_, _, rfl, rfl⟩
      · obtain ⟨y, rfl⟩ : ∃ f, y = f + 1 := ⟨y - 1, by omega⟩
        rw [if_neg (show ¬ nI (cnt + 1) = nI (cnt + (y + 1 + 1)) from fun z => by have := nI_inj (by omega) (by omega) z; omega)]
        have z := ih (p + 1) fuel fuel' (cnt + 1) y (by omega) (by omega) (by omega) hs'.symm (by omega) (by omega)
        rw [show cnt + 1 + (y + 1) = cnt + (y + 1 + 1) by omega] at z
        exact z
/-! the calls -/
theorem sh_c {cs ms : St} {n w : Nat} (hG : GR cs 0 (ms 0)) (hO : GO n w (ms 0)) (x : Int32) : f_X5_stretchHindrance cs x = f_X6_noStretches ms x := by
  unfold f_X5_stretchHindrance f_X6_noStretches
  simp only [bnd_s]
  rw [hind_c hG hO, hG.1]
  by_cases h : f_X6_noOrder ms = 0
  · rw [if_pos h, if_pos h]
    by_cases q : x < 1
    · rw [if_pos q, w_f1 q]; simp only [b2i_f, if_true]
    · rw [if_neg q]
      by_cases q2 : x ≤ ms 0 0
      · rw [if_pos q2, w_t q q2]; simp only [b2i_t, if_false]
      · rw [if_neg q2, w_f2 q q2]; simp only [b2i_f, if_true]
  · rw [if_neg h, if_neg h]
theorem sh_0 {ms : St} {n w : Nat} (hO : GO n w (ms 0)) (x : Int32) : (f_X6_noStretches ms x = 0 ∧ 1 ≤ n ∧ n ≤ 8 ∧ ∃ k, k < n ∧ x = nI (k + 1)) ∨ ¬ f_X6_noStretches ms x = 0 := by
  have hn := hO.1
  rcases hind_0 hO with ⟨h, h1, h8⟩ | h
  · by_cases q : x < 1
    · right
      unfold f_X6_noStretches
      simp only [bnd_s]
      rw [if_pos h, w_f1 q]; simp only [b2i_f, if_true]; decide
    · by_cases q2 : x ≤ ms 0 0
      · left
        refine ⟨?_, h1, h8, ?_⟩
        · unfold f_X6_noStretches
          simp only [bnd_s]
          rw [if_pos h, w_t q q2]; simp only [b2i_t, if_false]
        · have q0 : ¬ x < 0 := fun z => q (by rw [i32_lt] at z ⊢; rw [show (0 : Int32).toInt = 0 by decide] at z; rw [show (1 : Int32).toInt = 1 by decide]; omega)
          obtain ⟨k, hk, rfl⟩ := nn_nI q0
          rw [i32_lt, nI_toInt hk, show (1 : Int32).toInt = 1 by decide] at q
          rw [hO.2.2.1, i32_le, nI_toInt hk, nI_toInt (by omega)] at q2
          exact ⟨k - 1, by omega, by rw [show k - 1 + 1 = k by omega]⟩
      · right
        unfold f_X6_noStretches
        simp only [bnd_s]
        rw [if_pos h, w_f2 q q2]; simp only [b2i_f, if_true]; decide
  · right
    unfold f_X6_noStretches
    simp only [bnd_s]
    rw [if_neg h]; exact h
theorem both_b {cs ms : St} {N n w k : Nat} (hN : 200000000 ≤ N) (hR : Rel SO cs ms) (hO : GO n w (ms 0)) (h1 : 1 ≤ n) (h8 : n ≤ 8) (hk : k < n) : ∃ cs1 cs2 ms1 ms2 B, f_X3_solve N cs 4095 = some cs1 ∧ f_X0_choose N cs1 (nI (k + 1)) = some cs2 ∧ f_X6_search N ms 4095 = some ms1 ∧ f_X6_part N ms1 (nI (k + 1)) = some ms2 ∧ Rel SO cs2 ms2 ∧ cs2 50 1 = ms2 10 4 ∧ cs2 50 0 = nI n ∧ (∀ j, j < n → cs2 49 j = b2i (B.testBit j)) ∧ ms2 10 5 = nI B ∧ pcN n B = k ∧ B.testBit 0 = false := by
  obtain ⟨cs', ms', z1, z2, z3, z4, z5, z6, z7, z8, -, -, z9, z10⟩ := both_s (mask := 4095) hN hR hO h1 h8
  rw [← z8] at z7
  obtain ⟨y1, y2, y3, y4⟩ := row_ok z5 z6 z7
  have hr : ∀ j, j < n → dR cs' j < n ∧ ms' 6 j = nI (dR cs' j) := fun j hj => ⟨y2.1 j hj, (z9 j hj).trans (nI_tn _).symm⟩
  obtain ⟨cs2, B, x1, x2, x3, x4, x5, x6⟩ := choose_c (N := N) (k := k + 1) (by omega) h1 (by omega) (by omega) y1 y4 y2 (fun i hi => z5.gN_lt hi)
  obtain ⟨ms2, v1, v2, v3, v4, v5⟩ := part_m (N := N) z5 (by omega) h1 h8 hk hr x6
  refine ⟨cs', cs2, ms', ms2, B, z1, x1, z2, v1, ?_, x5.trans v4.symm, x3, x4, v5, x6.2.2.1, x6.2.1⟩
  exact z3.scratch (fun c h12 h40 => x2 c (by omega) (by omega) (by omega)) (SO_ok _ _ (fun c hc1 hc2 => x2 c (by omega) (by omega) (by omega)) z3.2.2.2.2.2) (fun c hc => v2 c (by omega)) ⟨v3 0 (by omega), v3 1 (by omega)⟩
theorem s_stretches {N : Nat} (hN : 200000000 ≤ N) : ∀ cs ms, Rel SO cs ms → ∀ (a1 : Int32), StepI (Rel SO) (f_X5_stretches N cs a1) (f_X6_stretches N ms a1) := by
  intro cs ms hR a1
  obtain ⟨hG, ⟨n, w, hO⟩, -⟩ := id hR
  unfold f_X5_stretches f_X6_stretches
  simp only [bnd_s]
  rw [sh_c hG hO]
  rcases sh_0 hO a1 with ⟨h, h1, h8, k, hk, rfl⟩ | h
  · rw [if_pos h, if_pos h]
    obtain ⟨cs1, cs2, ms1, ms2, B, z1, z2, z3, z4, z5, z6, -⟩ := both_b hN hR hO h1 h8 hk
    rw [z1, z3, bd1_s, bd1_s, z2, z4, bd1_s, bd1_s, z6]
    exact ⟨_, _, _, rfl, rfl, z5⟩
  · rw [if_neg h, if_neg h]
    exact fin_step SO_ok hR _
theorem s_border {N : Nat} (hN : 200000000 ≤ N) : ∀ cs ms, Rel SO cs ms → ∀ (a1 a2 : Int32), StepI (Rel SO) (f_X5_border N cs a1 a2) (f_X6_border N ms a1 a2) := by
  intro cs ms hR a1 a2
  obtain ⟨hG, ⟨n, w, hO⟩, -⟩ := id hR
  unfold f_X5_border f_X6_border
  simp only [bnd_s]
  rw [sh_c hG hO]
  rcases sh_0 hO a1 with ⟨h, h1, h8, k, hk, rfl⟩ | h
  · rw [if_pos h, if_pos h, nI_pred]
    by_cases q : a2 < 0
    · rw [if_pos q, w_f1 q]; simp only [b2i_f, if_true]; exact fin_step SO_ok hR _
    · rw [if_neg q]
      obtain ⟨i, hi, rfl⟩ := nn_nI q
      by_cases q2 : i < k + 1
      · rw [if_pos (nI_lt q2 (by omega)), w_t q (nI_le (show i ≤ k by omega) (by omega))]
        simp only [b2i_t, if_false]
        obtain ⟨cs1, cs2, ms1, ms2, B, z1, z2, z3, z4, z5, z6, z7, z8, z9, z10, z11⟩ := both_b hN hR hO h1 h8 hk
        rw [z1, z3, bd1_s, bd1_s, z2, z4, bd1_s, bd1_s]
        by_cases hz : i = 0
        · subst hz
          have e1 : f_X0_beginOf N cs2 (nI 0) = some 0 := begin_0 (N := N) h8 z7 (n - 1) 1 N 0 (by omega) (by omega) (by omega)
          obtain ⟨M, rfl⟩ : ∃ f, N = f + 1 := ⟨N - 1, by omega⟩
          rw [e1, bd1_s, f_X6_border_L53, if_pos (show nI 0 ≤ (0 : Int32) by decide)]
          exact ⟨_, _, _, rfl, rfl, z5⟩
        · obtain ⟨y, rfl⟩ : ∃ f, i = f + 1 := ⟨i - 1, by omega⟩
          have hc0 : pcN (0 + 1) B = 0 := by
            show 0 + (if B.testBit 0 then 1 else 0) = 0
            rw [z11]; rfl
          obtain ⟨v, z, x1, x2⟩ := begin_both (N := N) h8 z7 z8 z9 (fun _ a_12 => some (a_12, ms2)) (n - 1) 0 N N 0 y (by omega) (by omega) (by omega) hc0.symm (by omega) (by omega)
          rw [Nat.zero_add] at x1
          have x1' : f_X0_beginOf N cs2 (nI (y + 1)) = some v := x1
          rw [x1', bd1_s]
          exact ⟨_, _, _, rfl, x2, z5⟩
      · rw [if_neg (show ¬ nI i < nI (k + 1) from nIq_nlt (by omega) hi), w_f2 q (nI_ge (show k < i by omega) hi)]
        simp only [b2i_f, if_true]; exact fin_step SO_ok hR _
  · rw [if_neg h, if_neg h]
    exact fin_step SO_ok hR _
