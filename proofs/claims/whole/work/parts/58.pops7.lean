/-! bones -/
theorem isIn_bt (x : Int32) {i : Nat} (hi : i < 32) : f_X5_isIn x (nI i) = bt x i := by
  unfold f_X5_isIn
  rw [b_tst x hi]
  cases bt x i <;> rfl
def wtOf (man : Bool) : Nat := if man then 92 else 98
def pv (mt mm : Int32) (wt : Nat → Int32) (man : Bool) : Nat → Int64
  | 0 => 1
  | m + 1 => if bt mt m = false then pv mt mm wt man m else pv mt mm wt man m * (if bt mm m = man then (wt m).toInt64 else (21 - wt m).toInt64)
theorem share_c {cs ms : St} {N n w k : Nat} (hG : GR cs 0 (ms 0)) (hO : GO n w (ms 0)) (hN : 100 ≤ N) (hk : k < n) (man : Bool) : f_X2_productOfMarks N cs (nI k) man = some (pv (ms 0 (72 + k)) (ms 0 (82 + k)) (fun m => ms 0 (wtOf man + m)) man 6) := by
  have hn := hO.1
  unfold f_X2_productOfMarks
  rw [ck_nI (by omega) (by omega), bnd_s]
  have e7 : cs 7 k = ms 0 (72 + k) := hG.at 7 (by omega) (by omega)
  have e8 : cs 8 k = ms 0 (82 + k) := hG.at 8 (by omega) (by omega)
  have ew : ∀ m, m < 6 → cs (f_X2_weightsFor cs man + 6) m = ms 0 (wtOf man + m) := by
    intro m hm
    cases man
    · exact hG.2.2.2.2.1 m hm
    · exact hG.2.2.2.1 m hm
  refine loopF (fun fuel s i => f_X2_productOfMarks_L20 N man k (f_X2_weightsFor cs man) cs (fun a_15 _ => some a_15) fuel s i) (fun s => some s) 6 (fun i => pv (ms 0 (72 + k)) (ms 0 (82 + k)) (fun m => ms 0 (wtOf man + m)) man i) (fun i fuel hi => ?_) (fun fuel => ?_) 6 0 N (by omega) (by omega)
  · show f_X2_productOfMarks_L20 N man k _ cs _ (fuel + 1) _ _ = f_X2_productOfMarks_L20 N man k _ cs _ fuel (if bt (ms 0 (72 + k)) i = false then _ else _ * _) _
    rw [f_X2_productOfMarks_L20, if_neg (show ¬ ((6 : Int32) ≤ nI i) from nI_ge (b := 6) hi (by omega))]
    simp only [bnd_s]
    rw [e7, e8, isIn_bt _ (by omega), isIn_bt _ (by omega), nI_1, ck_nI hi (by omega), ck_nI hi (by omega), ew i hi]
    simp only [b2i_0, b2i_inj]
    split
    · rfl
    · split <;> rfl
  · show f_X2_productOfMarks_L20 N man k _ cs _ (fuel + 1) _ _ = _
    rw [f_X2_productOfMarks_L20, if_pos (by decide)]
theorem share_m {ms : St} {N n w k : Nat} (hO : GO n w (ms 0)) (hN : 100 ≤ N) (hk : k < n) (man : Bool) : f_X6_shareOf N ms (nI k) man = some (pv (ms 0 (72 + k)) (ms 0 (82 + k)) (fun m => ms 0 (wtOf man + m)) man 6) := by
  have hn := hO.1
  unfold f_X6_shareOf
  refine loopF (fun fuel s i => f_X6_shareOf_L5 N (nI k) man ms (fun a_28 _ => some a_28) fuel s i) (fun s => some s) 6 (fun i => pv (ms 0 (72 + k)) (ms 0 (82 + k)) (fun m => ms 0 (wtOf man + m)) man i) (fun i fuel hi => ?_) (fun fuel => ?_) 6 0 N (by omega) (by omega)
  · show f_X6_shareOf_L5 N (nI k) man ms _ (fuel + 1) _ _ = f_X6_shareOf_L5 N (nI k) man ms _ fuel (if bt (ms 0 (72 + k)) i = false then _ else _ * _) _
    rw [f_X6_shareOf_L5, if_neg (show ¬ ((6 : Int32) ≤ nI i) from nI_ge (b := 6) hi (by omega))]
    have c7 : ∀ {β : Type} (K : Nat → Option β), ck 116 (72 + nI k) K = K (72 + k) := fun K => ck_72 (by omega) (by omega)
    have c8 : ∀ {β : Type} (K : Nat → Option β), ck 116 (82 + nI k) K = K (82 + k) := fun K => ck_82 (by omega) (by omega)
    have c92 : ∀ {β : Type} (K : Nat → Option β), ck 116 (92 + nI i) K = K (92 + i) := fun K => ck_92 (by omega) (by omega)
    have c98 : ∀ {β : Type} (K : Nat → Option β), ck 116 (98 + nI i) K = K (98 + i) := fun K => ck_98 (by omega) (by omega)
    simp only [bnd_s, c7, c8, c92, c98]
    rw [b_tst _ (by omega), b_tst _ (by omega), nI_1]
    simp only [b2i_0, b2i_1]
    by_cases h1 : bt (ms 0 (72 + k)) i = false
    · rw [if_pos h1, if_pos h1]
    · rw [if_neg h1, if_neg h1]
      cases man
      · cases h2 : bt (ms 0 (82 + k)) i
        · simp [b2i, wtOf]
        · simp [b2i, wtOf]
      · cases h2 : bt (ms 0 (82 + k)) i
        · simp [b2i, wtOf]
        · simp [b2i, wtOf]
  · show f_X6_shareOf_L5 N (nI k) man ms _ (fuel + 1) _ _ = _
    rw [f_X6_shareOf_L5, if_pos (by decide)]
theorem fin_stepL {SO : St → Prop} {cs ms : St} (hSO : SOk SO) (hR : Rel SO cs ms) (v : Int32) : StepL (Rel SO) (bd2 (f_X5_finding cs v) fun r st => some (r.toInt64, st)) (bd2 (f_X6_finding ms v) fun r st => some (r.toInt64, st)) :=
  ⟨v.toInt64, _, _, rfl, rfl, hR.fin hSO⟩
theorem isK2 {t : Nat} (h : t < 4) : isK t 2 = decide (t = 2) := by
  rcases (show t = 0 ∨ t = 1 ∨ t = 2 ∨ t = 3 by omega) with rfl | rfl | rfl | rfl <;> rfl
theorem s_share {SO : St → Prop} (hSO : SOk SO) {N : Nat} (hN : 100 ≤ N) : ∀ cs ms, Rel SO cs ms → ∀ (a1 : Int32) (a2 : Bool), StepL (Rel SO) (f_X5_share N cs a1 a2) (f_X6_share N ms a1 a2) := by
  intro cs ms hR a1 a2
  obtain ⟨hG, ⟨n, w, hO⟩, -⟩ := id hR
  have hn := hO.1
  unfold f_X5_share f_X6_share
  simp only [bnd_s]
  rcases gr_cases hG.1 hO.2.2.1 hn a1 with ⟨e1, e2⟩ | ⟨e1, e2, k, hk, rfl⟩
  · rw [e1, e2]; simp only [b2i_f, if_true]; exact fin_stepL hSO hR _
  · rw [e1, e2]; simp only [b2i_t, if_false]
    obtain ⟨t, ht, et⟩ := hO.kind hk
    have ek : cs 0 k = nI t := (hG.at 0 (by omega) (by omega)).trans et
    rw [ck_nI (by omega) (by omega), ck_2 (by omega) (by omega), et, show f_X1_isOfKind N cs k 2 = some (isK t 2) from kind_N (u := 2) hN ek ht (by omega), bd1_s, isK2 ht]
    by_cases h2 : t = 2
    · subst h2
      rw [if_pos (show nI 2 = (2 : Int32) from rfl), decide_eq_true rfl]
      simp only [b2i_t, if_false]; exact fin_stepL hSO hR _
    · rw [if_neg (show ¬ nI t = (2 : Int32) from fun q => h2 (nI_inj (b := 2) (by omega) (by omega) q)), decide_eq_false h2]
      simp only [b2i_f, if_true]
      rw [share_c hG hO hN hk, share_m hO hN hk]
      exact ⟨_, _, _, rfl, rfl, hR⟩
def whN (a : Nat → Int32) (k : Nat) : Int32 :=
  if a (2 + k) = 2 then 2 else
    if lg_cmp (pv (a (72 + k)) (a (82 + k)) (fun m => a (wtOf true + m)) true 6) (pv (a (72 + k)) (a (82 + k)) (fun m => a (wtOf false + m)) false 6) = 0 then 2 else
    if lg_cmp (pv (a (72 + k)) (a (82 + k)) (fun m => a (wtOf true + m)) true 6) (pv (a (72 + k)) (a (82 + k)) (fun m => a (wtOf false + m)) false 6) ≤ 0 then 1 else 0
def cntI (p : Nat → Bool) : Nat → Int32
  | 0 => 0
  | i + 1 => if p i then cntI p i + 1 else cntI p i
theorem whose_c {cs ms : St} {N n w k : Nat} (hG : GR cs 0 (ms 0)) (hO : GO n w (ms 0)) (hN : 100 ≤ N) (hk : k < n) : f_X2_whose N cs (nI k) = some (whN (ms 0) k) := by
  have hn := hO.1
  obtain ⟨t, ht, et⟩ := hO.kind hk
  have ek : cs 0 k = nI t := (hG.at 0 (by omega) (by omega)).trans et
  unfold f_X2_whose whN
  rw [ck_nI (by omega) (by omega), et, show f_X1_isOfKind N cs k 2 = some (isK t 2) from kind_N (u := 2) hN ek ht (by omega), bd1_s, isK2 ht]
  by_cases h2 : t = 2
  · subst h2
    rw [if_pos (show nI 2 = (2 : Int32) from rfl), decide_eq_true rfl]
    simp only [b2i_t, if_false]
  · rw [if_neg (show ¬ nI t = (2 : Int32) from fun q => h2 (nI_inj (b := 2) (by omega) (by omega) q)), decide_eq_false h2]
    simp only [b2i_f, if_true]
    rw [share_c hG hO hN hk, share_c hG hO hN hk, bd1_s, bd1_s]
    split
    · rfl
    · split <;> rfl
theorem add_z (x : Int32) : x + 0 = x := by
  apply Int32.toBitVec_inj.mp
  simp
theorem s_people {SO : St → Prop} (hSO : SOk SO) {N : Nat} (hN : 100 ≤ N) : ∀ cs ms, Rel SO cs ms → ∀ (a1 : Int32), StepI (Rel SO) (f_X5_people N cs a1) (f_X6_people N ms a1) := by
  intro cs ms hR a1
  obtain ⟨hG, ⟨n, w, hO⟩, -⟩ := id hR
  have hn := hO.1
  have e0 : ms 0 0 = nI n := hO.2.2.1
  have e1 : cs 13 0 = nI n := hG.1.trans e0
  unfold f_X5_people f_X6_people
  simp only [bnd_s]
  by_cases h : a1 < 0
  · rw [if_pos h, w_f1 h]; simp only [b2i_f, if_true]; exact fin_step hSO hR _
  · rw [if_neg h]
    by_cases h2 : a1 ≤ 2
    · rw [if_pos h2, w_t h h2]; simp only [b2i_t, if_false]
      have hc : f_X5_people_L20 N a1 cs (fun a_10 _ => some (a_10, cs)) N 0 0 = some (cntI (fun k => decide (whN (ms 0) k = a1)) n, cs) := by
        refine loopF (fun fuel s i => f_X5_people_L20 N a1 cs (fun a_10 _ => some (a_10, cs)) fuel s i) (fun s => some (s, cs)) n (fun i => cntI (fun k => decide (whN (ms 0) k = a1)) i) (fun i fuel hi => ?_) (fun fuel => ?_) n 0 N (by omega) (by omega)
        · show f_X5_people_L20 N a1 cs _ (fuel + 1) _ _ = f_X5_people_L20 N a1 cs _ fuel (if decide (whN (ms 0) i = a1) = true then _ else _) _
          rw [f_X5_people_L20, e1, if_neg (nI_ge hi (by omega)), whose_c hG hO hN hi, bd1_s, nI_1]
          simp only [decide_eq_true_eq]
          split <;> rfl
        · show f_X5_people_L20 N a1 cs _ (fuel + 1) _ _ = _
          rw [f_X5_people_L20, e1, if_pos (nI_le (Nat.le_refl n) (by omega))]
      have hm : f_X6_people_L20 N a1 ms (fun a_24 _ => some (a_24, ms)) N 0 0 = some (cntI (fun k => decide (whN (ms 0) k = a1)) n, ms) := by
        refine loopF (fun fuel s i => f_X6_people_L20 N a1 ms (fun a_24 _ => some (a_24, ms)) fuel s i) (fun s => some (s, ms)) n (fun i => cntI (fun k => decide (whN (ms 0) k = a1)) i) (fun i fuel hi => ?_) (fun fuel => ?_) n 0 N (by omega) (by omega)
        · show f_X6_people_L20 N a1 ms _ (fuel + 1) _ _ = f_X6_people_L20 N a1 ms _ fuel (if decide (whN (ms 0) i = a1) = true then _ else _) _
          rw [f_X6_people_L20, e0, if_neg (nI_ge hi (by omega)), share_m hO hN hi, share_m hO hN hi, bd1_s, bd1_s, ck_2 (by omega) (by omega), nI_1]
          simp only [bnd_s, decide_eq_true_eq, add_z]
          unfold whN
          split
          · split <;> rfl
          · split
            · split <;> rfl
            · split
              · split <;> rfl
              · split <;> rfl
        · show f_X6_people_L20 N a1 ms _ (fuel + 1) _ _ = _
          rw [f_X6_people_L20, e0, if_pos (nI_le (Nat.le_refl n) (by omega))]
      rw [hc, hm]
      exact ⟨_, _, _, rfl, rfl, hR⟩
    · rw [if_neg h2, w_f2 h h2]; simp only [b2i_f, if_true]; exact fin_step hSO hR _
/-! likeness -/
def shN (a : Nat → Int32) (i j : Nat) : Nat := pc (gN a i &&& gN a j)
def joN (a : Nat → Int32) (i j : Nat) : Nat := if pc (gN a i ||| gN a j) = 0 then 1 else pc (gN a i ||| gN a j)
theorem and_lt {a b : Nat} (h : a < 4096) : a &&& b < 4096 := Nat.lt_of_le_of_lt Nat.and_le_left h
theorem or_lt {a b : Nat} (h : a < 4096) (h2 : b < 4096) : a ||| b < 4096 := Nat.or_lt_two_pow (n := 12) h h2
theorem pc_le (t : Nat) : pc t ≤ 12 := pcN_le 12 t
theorem both_m {ms : St} {N n w i j : Nat} (hO : GO n w (ms 0)) (hN : 100 ≤ N) (hi : i < n) (hj : j < n) : f_X6_both N ms (nI i) (nI j) = some (nI (shN (ms 0) i j)) := by
  have hn := hO.1
  unfold f_X6_both
  rw [ck_32 (by omega) (by omega), ck_32 (by omega) (by omega), gN_eq (ms 0) i, gN_eq (ms 0) j, nI_and, many_nI (by omega) (and_lt (hO.gN_lt hi)), bd1_s]
  rfl
theorem either_m {ms : St} {N n w i j : Nat} (hO : GO n w (ms 0)) (hN : 100 ≤ N) (hi : i < n) (hj : j < n) : f_X6_either N ms (nI i) (nI j) = some (nI (joN (ms 0) i j)) := by
  have hn := hO.1
  unfold f_X6_either joN
  rw [ck_32 (by omega) (by omega), ck_32 (by omega) (by omega), gN_eq (ms 0) i, gN_eq (ms 0) j, nI_or, many_nI (by omega) (or_lt (hO.gN_lt hi) (hO.gN_lt hj)), bd1_s]
  have hp := pc_le (gN (ms 0) i ||| gN (ms 0) j)
  by_cases h : pc (gN (ms 0) i ||| gN (ms 0) j) = 0
  · have z : nI (pc (gN (ms 0) i ||| gN (ms 0) j)) = (0 : Int32) := by rw [h]; rfl
    rw [if_pos z, if_pos h]; rfl
  · have z : ¬ nI (pc (gN (ms 0) i ||| gN (ms 0) j)) = (0 : Int32) := fun q => h (nI_inj (b := 0) (by omega) (by omega) q)
    rw [if_neg z, if_neg h]
theorem both_c {cs ms : St} {n w i j : Nat} (hG : GR cs 0 (ms 0)) (hO : GO n w (ms 0)) (hi : i < n) (hj : j < n) : f_X2_sharedGoods cs (nI i) (nI j) = some (nI (shN (ms 0) i j)) := by
  have hn := hO.1
  unfold f_X2_sharedGoods
  have e1 : cs 3 i = nI (gN (ms 0) i) := (hG.at 3 (by omega) (by omega)).trans (gN_eq _ _)
  have e2 : cs 3 j = nI (gN (ms 0) j) := (hG.at 3 (by omega) (by omega)).trans (gN_eq _ _)
  rw [ck_nI (by omega) (by omega), ck_nI (by omega) (by omega), e1, e2, nI_and, bc_nI (and_lt (hO.gN_lt hi))]
  rfl
theorem either_c {cs ms : St} {n w i j : Nat} (hG : GR cs 0 (ms 0)) (hO : GO n w (ms 0)) (hi : i < n) (hj : j < n) : f_X2_joinedGoods cs (nI i) (nI j) = some (nI (joN (ms 0) i j)) := by
  have hn := hO.1
  unfold f_X2_joinedGoods joN
  have e1 : cs 3 i = nI (gN (ms 0) i) := (hG.at 3 (by omega) (by omega)).trans (gN_eq _ _)
  have e2 : cs 3 j = nI (gN (ms 0) j) := (hG.at 3 (by omega) (by omega)).trans (gN_eq _ _)
  rw [ck_nI (by omega) (by omega), ck_nI (by omega) (by omega), e1, e2, nI_or, bc_nI (or_lt (hO.gN_lt hi) (hO.gN_lt hj))]
  have hp := pc_le (gN (ms 0) i ||| gN (ms 0) j)
  rw [bnd_s]
  unfold imax
  by_cases h : pc (gN (ms 0) i ||| gN (ms 0) j) = 0
  · rw [h, if_pos rfl, if_neg (by decide)]; rfl
  · rw [if_neg h]
    by_cases h1 : pc (gN (ms 0) i ||| gN (ms 0) j) = 1
    · rw [h1, if_neg (by decide)]; rfl
    · rw [if_pos (show (1 : Int32) < nI _ from nI_lt (a := 1) (by omega) (by omega))]
theorem joN_rng (a : Nat → Int32) (i j : Nat) : 1 ≤ joN a i j ∧ joN a i j ≤ 12 := by
  unfold joN
  have hp := pc_le (gN a i ||| gN a j)
  split <;> omega
def gd (a b : Nat) : Nat → Nat
  | 0 => 1
  | d + 1 => if d = 0 then 1 else if a % (d + 1) = 0 ∧ b % (d + 1) = 0 then d + 1 else gd a b d
theorem gd_pos (a b : Nat) : ∀ d, 1 ≤ gd a b d := by
  intro d
  induction d with
  | zero => exact Nat.le_refl 1
  | succ d ih => unfold gd; split; omega; split <;> omega
theorem gd_le (a b : Nat) : ∀ d, gd a b d ≤ d + 1 := by
  intro d
  induction d with
  | zero => exact Nat.le_refl 1
  | succ d ih => unfold gd; split; omega; split <;> omega
theorem gd_c {N a b : Nat} (ha : a ≤ 12) (hb : b ≤ 12) : ∀ (d fuel : Nat), d ≤ 12 → d < fuel → f_X5_commonDivisor_L2 N (nI a) (nI b) (fun _ => some 1) fuel (nI d) = some (nI (gd a b d)) := by
  intro d
  induction d with
  | zero =>
    intro fuel _ hf
    obtain ⟨fuel, rfl⟩ : ∃ f, fuel = f + 1 := ⟨fuel - 1, by omega⟩
    rw [f_X5_commonDivisor_L2, if_pos (by decide)]; rfl
  | succ d ih =>
    intro fuel hd hf
    obtain ⟨fuel, rfl⟩ : ∃ f, fuel = f + 1 := ⟨fuel - 1, by omega⟩
    rw [f_X5_commonDivisor_L2]
    by_cases h0 : d = 0
    · subst h0
      rw [if_pos (by decide)]; rfl
    · have hz : ¬ nI (d + 1) = 0 := nI_ne0 (by omega) (by omega)
      rw [if_neg (show ¬ nI (d + 1) ≤ (1 : Int32) from nI_ge (a := 1) (by omega) (by omega))]
      unfold nz
      rw [if_neg hz, if_neg hz, pk_rem (by omega) (by omega) (by omega), pk_rem (by omega) (by omega) (by omega), pk_m1]
      unfold gd
      rw [if_neg h0]
      have ma : a % (d + 1) < 13 := by have := Nat.mod_le a (d + 1); omega
      have mb : b % (d + 1) < 13 := by have := Nat.mod_le b (d + 1); omega
      by_cases h1 : a % (d + 1) = 0
      · have z1 : nI (a % (d + 1)) = (0 : Int32) := by rw [h1]; rfl
        rw [if_pos z1]
        by_cases h2 : b % (d + 1) = 0
        · have z2 : nI (b % (d + 1)) = (0 : Int32) := by rw [h2]; rfl
          rw [if_pos z2, if_pos ⟨h1, h2⟩]
        · have z2 : ¬ nI (b % (d + 1)) = (0 : Int32) := fun q => h2 (nI_inj (b := 0) (by omega) (by omega) q)
          rw [if_neg z2, if_neg (fun q => h2 q.2)]
          exact ih fuel (by omega) (by omega)
      · have z1 : ¬ nI (a % (d + 1)) = (0 : Int32) := fun q => h1 (nI_inj (b := 0) (by omega) (by omega) q)
        rw [if_neg z1, if_neg (fun q => h1 q.1)]
        exact ih fuel (by omega) (by omega)
theorem gd_m {N a b : Nat} {x3 : Bool} {st : St} (K : Int32 → Option (Int32 × St)) (ha : a ≤ 12) (hb : b ≤ 12) : ∀ (d fuel : Nat), d + 1 ≤ 12 → d + 1 < fuel → f_X6_like_L43 N x3 (nI a) (nI b) st K fuel (nI (d + 1)) = K (nI (gd a b (d + 1))) := by
  intro d
  induction d with
  | zero =>
    intro fuel _ hf
    obtain ⟨fuel, rfl⟩ : ∃ f, fuel = f + 1 := ⟨fuel - 1, by omega⟩
    have hz : ¬ nI (0 + 1) = 0 := nI_ne0 (by omega) (by omega)
    rw [f_X6_like_L43]
    unfold nz
    rw [if_neg hz, if_neg hz, pk_rem (by omega) (by omega) (by omega), pk_rem (by omega) (by omega) (by omega), Nat.mod_one, Nat.mod_one, if_pos (show nI 0 = (0 : Int32) from rfl), if_pos (show nI 0 = (0 : Int32) from rfl)]
    rfl
  | succ d ih =>
    intro fuel hd hf
    obtain ⟨fuel, rfl⟩ : ∃ f, fuel = f + 1 := ⟨fuel - 1, by omega⟩
    have hz : ¬ nI (d + 1 + 1) = 0 := nI_ne0 (by omega) (by omega)
    rw [f_X6_like_L43]
    unfold nz
    rw [if_neg hz, if_neg hz, pk_rem (by omega) (by omega) (by omega), pk_rem (by omega) (by omega) (by omega), pk_m1]
    unfold gd
    rw [if_neg (show ¬ d + 1 = 0 by omega)]
    have ma : a % (d + 1 + 1) < 13 := by have := Nat.mod_le a (d + 1 + 1); omega
    have mb : b % (d + 1 + 1) < 13 := by have := Nat.mod_le b (d + 1 + 1); omega
    by_cases h1 : a % (d + 1 + 1) = 0
    · have z1 : nI (a % (d + 1 + 1)) = (0 : Int32) := by rw [h1]; rfl
      rw [if_pos z1]
      by_cases h2 : b % (d + 1 + 1) = 0
      · have z2 : nI (b % (d + 1 + 1)) = (0 : Int32) := by rw [h2]; rfl
        rw [if_pos z2, if_pos ⟨h1, h2⟩]
      · have z2 : ¬ nI (b % (d + 1 + 1)) = (0 : Int32) := fun q => h2 (nI_inj (b := 0) (by omega) (by omega) q)
        rw [if_neg z2, if_neg (fun q => h2 q.2)]
        exact ih fuel (by omega) (by omega)
    · have z1 : ¬ nI (a % (d + 1 + 1)) = (0 : Int32) := fun q => h1 (nI_inj (b := 0) (by omega) (by omega) q)
      rw [if_neg z1, if_neg (fun q => h1 q.1)]
      exact ih fuel (by omega) (by omega)
theorem shN_le (a : Nat → Int32) (i j : Nat) : shN a i j ≤ 12 := pc_le _
theorem s_like {SO : St → Prop} (hSO : SOk SO) {N : Nat} (hN : 100 ≤ N) : ∀ cs ms, Rel SO cs ms → ∀ (a1 a2 : Int32) (a3 : Bool), StepI (Rel SO) (f_X5_like N cs a1 a2 a3) (f_X6_like N ms a1 a2 a3) := by
  intro cs ms hR a1 a2 a3
  obtain ⟨hG, ⟨n, w, hO⟩, -⟩ := id hR
  have hn := hO.1
  unfold f_X5_like f_X6_like
  simp only [bnd_s]
  rcases gr_cases hG.1 hO.2.2.1 hn a1 with ⟨e1, e2⟩ | ⟨e1, e2, i, hi, rfl⟩
  · rw [e1, e2]; simp only [b2i_f, if_true]; exact fin_step hSO hR _
  · rw [e1, e2]; simp only [b2i_t, if_false]
    rcases gr_cases hG.1 hO.2.2.1 hn a2 with ⟨e1, e2⟩ | ⟨e1, e2, j, hj, rfl⟩
    · rw [e1, e2]; simp only [b2i_f, if_true]; exact fin_step hSO hR _
    · rw [e1, e2]; simp only [b2i_t, if_false]
      have hjo := joN_rng (ms 0) i j
      have hsh := shN_le (ms 0) i j
      rw [both_c hG hO hi hj, either_c hG hO hi hj, both_m hO hN hi hj, either_m hO hN hi hj, bd1_s, bd1_s, bd1_s, bd1_s]
      unfold f_X5_commonDivisor
      rw [gd_c hsh hjo.2 _ _ hjo.2 (by omega), bd1_s]
      obtain ⟨d, hd⟩ : ∃ d, joN (ms 0) i j = d + 1 := ⟨joN (ms 0) i j - 1, by omega⟩
      have hm := gd_m (N := N) (x3 := a3) (st := ms) (fun a_16 => if b2i a3 = 0 then nz a_16 <| some (nI (shN (ms 0) i j) / a_16, ms) else nz a_16 <| some (nI (joN (ms 0) i j) / a_16, ms)) hsh hjo.2 d N (by omega) (by omega)
      rw [← hd] at hm
      rw [hm]
      have hgp := gd_pos (shN (ms 0) i j) (joN (ms 0) i j) (joN (ms 0) i j)
      have hgl := gd_le (shN (ms 0) i j) (joN (ms 0) i j) (joN (ms 0) i j)
      have hz : ¬ nI (gd (shN (ms 0) i j) (joN (ms 0) i j) (joN (ms 0) i j)) = 0 := nI_ne0 (by omega) (by omega)
      unfold nz
      rw [if_neg hz, if_neg hz, if_neg hz, if_neg hz]
      cases a3
      · simp only [b2i_f, if_true]; exact ⟨_, _, _, rfl, rfl, hR⟩
      · simp only [b2i_t, if_false]; exact ⟨_, _, _, rfl, rfl, hR⟩
