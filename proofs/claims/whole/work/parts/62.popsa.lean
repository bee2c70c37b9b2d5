/-! a stretch is copied -/
theorem nn_nI {x : Int32} (h : ¬ x < 0) : ∃ k, k < 2 ^ 31 ∧ x = nI k := by
  have h2 := Int32.toInt_lt x
  rw [i32_lt, show (0 : Int32).toInt = 0 by decide] at h
  refine ⟨x.toInt.toNat, by omega, ?_⟩
  apply Int32.toInt_inj.mp
  rw [nI_toInt (by omega)]
  omega
theorem lgc_pos (x y : Int64) : 0 < lg_cmp x y ↔ y < x := by
  unfold lg_cmp
  by_cases h : x > y
  · rw [if_pos h]; exact ⟨fun _ => h, fun _ => by decide⟩
  · rw [if_neg h]
    by_cases h2 : x = y
    · rw [if_pos h2]; exact ⟨fun q => absurd q (by decide), fun q => absurd q h⟩
    · rw [if_neg h2]; exact ⟨fun q => absurd q (by decide), fun q => absurd q h⟩
theorem lgc_np (x y : Int64) : lg_cmp x y ≤ 0 ↔ ¬ y < x := by
  unfold lg_cmp
  by_cases h : x > y
  · rw [if_pos h]; exact ⟨fun q => absurd q (by decide), fun q => absurd h q⟩
  · rw [if_neg h]
    by_cases h2 : x = y
    · rw [if_pos h2]; exact ⟨fun _ => h, fun _ => by decide⟩
    · rw [if_neg h2]; exact ⟨fun _ => h, fun _ => by decide⟩
theorem lg_sum {a b c : Nat} (ha : a < 2 ^ 31) (hb : b < 2 ^ 31) (hc : c < 2 ^ 31) : ((nI c).toInt64 < (nI a).toInt64 + (nI b).toInt64) ↔ c < a + b := by
  rw [nI_l ha, nI_l hb, nI_l hc, show lN a + lN b = lN (a + b) from (Int64.ofNat_add a b).symm]
  exact pk_lLT (by omega) (by omega)
theorem hs_f1 {st : St} {q : Nat} {x l : Int32} (h : x < 0) : f_X4_hasStretch st q x l = false := by
  unfold f_X4_hasStretch; rw [if_pos h]
theorem hs_f2 {st : St} {q : Nat} {x l : Int32} (h : l < 0) : f_X4_hasStretch st q x l = false := by
  unfold f_X4_hasStretch; rw [if_pos h]; exact ite_self _
theorem hs_nn {st : St} {q L p m : Nat} (e : st 37 q = nI L) (hL : L ≤ 12) (hp : p < 2 ^ 31) (hm : m < 2 ^ 31) : f_X4_hasStretch st q (nI p) (nI m) = decide (p + m ≤ L) := by
  unfold f_X4_hasStretch
  rw [if_neg (nI_pos hp), if_neg (nI_pos hm), e]
  by_cases h1 : L < m
  · rw [if_pos (nI_lt h1 hm), decide_eq_false (by omega)]
  · rw [if_neg (fun q => h1 ((by rw [i32_lt, nI_toInt (by omega), nI_toInt hm] at q; omega)))]
    have e2 : (nI L - nI m).toInt = (L : Int) - m := pk_sub_toInt (by omega) (by omega)
    by_cases h2 : L - m < p
    · rw [if_pos (by rw [i32_lt, e2, nI_toInt hp]; omega), decide_eq_false (by omega)]
    · rw [if_neg (by rw [i32_lt, e2, nI_toInt hp]; omega), decide_eq_true (by omega)]
theorem idx12s (q p i : Nat) : ((12 : Int32) * nI q + nI p) + nI i = nI (12 * q + p + i) := by
  rw [idx12, nI_add]
theorem copy1_m {st : St} {N q1 p l : Nat} {x3 x4 : Int32} (K : Int32 → St → Option (Int32 × St)) (hN : 100 ≤ N) (hq : q1 < 4) (hl : p + l ≤ 12) : f_X6_copy_L127 N (nI q1) (nI p) x3 x4 (nI l) K N 0 st = K (nI l) (sF st 5 (cpF (fun j => st 4 (12 * q1 + p + j)) (st 5) l)) := by
  have h := loopF (fun fuel s i => f_X6_copy_L127 N (nI q1) (nI p) x3 x4 (nI l) K fuel i s) (fun s => K (nI l) s) l (fun i => sF st 5 (cpF (fun j => st 4 (12 * q1 + p + j)) (st 5) i)) (fun i fuel hi => ?_) (fun fuel => ?_) l 0 N (by omega) (by omega)
  · simp only [cpF_0, sF_self] at h
    exact h
  · show f_X6_copy_L127 N (nI q1) (nI p) x3 x4 (nI l) K (fuel + 1) (nI i) _ = _
    rw [f_X6_copy_L127, if_neg (nI_ge hi (by omega)), idx12s, ck_nI (by omega) (by omega), sto_nI (by omega) (by omega), sF_ne _ _ (show ¬ 4 = 5 by omega), sU_sF, nI_1]
    have q := cpF_s (fun j => st 4 (12 * q1 + p + j)) (st 5) i
    have q' : upd (cpF (fun j => st 4 (12 * q1 + p + j)) (st 5) i) i (st 4 (12 * q1 + p + i)) = cpF (fun j => st 4 (12 * q1 + p + j)) (st 5) (i + 1) := q
    rw [q']
  · show f_X6_copy_L127 N (nI q1) (nI p) x3 x4 (nI l) K (fuel + 1) (nI l) _ = _
    rw [f_X6_copy_L127, if_pos (nI_le (Nat.le_refl l) (by omega))]
theorem cpy_0 (f g : Nat → Int32) (D : Nat) : va_cpy f g 0 D 0 = g := by
  funext k; unfold va_cpy; rw [if_neg (by omega)]
theorem cpy_s (f g : Nat → Int32) (D i : Nat) : upd (va_cpy f g 0 D i) (D + i) (f i) = va_cpy f g 0 D (i + 1) := by
  funext k
  unfold upd va_cpy
  by_cases h : k = D + i
  · subst h; rw [if_pos rfl, if_pos (by omega)]
    exact congrArg f (by omega)
  · rw [if_neg h]
    by_cases h2 : D ≤ k ∧ k < D + i
    · rw [if_pos h2, if_pos (by omega)]
    · rw [if_neg h2, if_neg (by omega)]
theorem copy2_m {st : St} {N q2 d l : Nat} (K : Int32 → St → Option (Int32 × St)) (hN : 100 ≤ N) (hq : q2 < 4) (hl : d + l ≤ 12) : f_X6_copy_L164 N (nI q2) (nI d) (nI l) K N 0 st = K (nI l) (sF st 4 (va_cpy (st 5) (st 4) 0 (12 * q2 + d) l)) := by
  have h := loopF (fun fuel s i => f_X6_copy_L164 N (nI q2) (nI d) (nI l) K fuel i s) (fun s => K (nI l) s) l (fun i => sF st 4 (va_cpy (st 5) (st 4) 0 (12 * q2 + d) i)) (fun i fuel hi => ?_) (fun fuel => ?_) l 0 N (by omega) (by omega)
  · simp only [cpy_0, sF_self] at h
    exact h
  · show f_X6_copy_L164 N (nI q2) (nI d) (nI l) K (fuel + 1) (nI i) _ = _
    rw [f_X6_copy_L164, if_neg (nI_ge hi (by omega)), idx12s, ck_nI (by omega) (by omega), sto_nI (by omega) (by omega), sF_ne _ _ (show ¬ 5 = 4 by omega), sU_sF, cpy_s, nI_1]
  · show f_X6_copy_L164 N (nI q2) (nI d) (nI l) K (fuel + 1) (nI l) _ = _
    rw [f_X6_copy_L164, if_pos (nI_le (Nat.le_refl l) (by omega))]
theorem acp_n {β : Type} {st : St} {c0 c1 p d l : Nat} {K : St → Option β} (h1 : p + l ≤ 12) (h2 : d + l ≤ 12) : acp 12 12 st c0 c1 (nI p) (nI d) (nI l) K = K (sF st c1 (va_cpy (st c0) (st c1) p d l)) := by
  unfold acp
  rw [nI_clamp (by omega), nI_clamp (by omega), nI_clamp (by omega), if_neg]
  rintro (q | q | q | q | q)
  · exact nI_pos (by omega) q
  · exact nI_pos (by omega) q
  · exact nI_pos (by omega) q
  · omega
  · omega
theorem sheet_copy {cs ms : St} (hS : ShR cs ms) {q1 q2 p d l : Nat} (hq1 : q1 < 4) (hq2 : q2 < 4) (h1 : p + l ≤ 12) (h2 : d + l ≤ 12) (A : Nat → Int32) (hA : ∀ j, j < l → A j = ms 4 (12 * q1 + p + j)) : ShR (sF cs (32 + q2) (va_cpy (cs (32 + q1)) (cs (32 + q2)) p d l)) (sF (sF ms 5 A) 4 (va_cpy A (ms 4) 0 (12 * q2 + d) l)) := by
  intro q hq
  obtain ⟨e1, e2, e3, e4, e5⟩ := hS q hq
  rw [sF_ne _ _ (show ¬ 36 = 32 + q2 by omega), sF_ne _ _ (show ¬ 37 = 32 + q2 by omega), sF_ne _ _ (show ¬ 2 = 4 by omega), sF_ne _ _ (show ¬ 3 = 4 by omega), sF_ne _ _ (show ¬ 2 = 5 by omega), sF_ne _ _ (show ¬ 3 = 5 by omega)]
  refine ⟨e1, e2, fun i hi => ?_, e4, e5⟩
  rw [sF_eq]
  by_cases hqq : q = q2
  · subst hqq
    rw [sF_eq]
    unfold va_cpy
    by_cases hc : d ≤ i ∧ i < d + l
    · rw [if_pos hc, if_pos (by omega), hA _ (by omega), (hS q1 hq1).2.2.1 _ (by omega)]
      exact congrArg (ms 4) (by omega)
    · rw [if_neg hc, if_neg (by omega)]
      exact e3 i hi
  · rw [sF_ne _ _ (by omega)]
    unfold va_cpy
    rw [if_neg (by omega)]
    exact e3 i hi
theorem isSheet_cases (x : Int32) : f_X6_isSheet x = false ∨ (f_X6_isSheet x = true ∧ ∃ q, q < 4 ∧ x = nI q) := by
  cases h : f_X6_isSheet x
  · exact Or.inl rfl
  · refine Or.inr ⟨rfl, ?_⟩
    exact w_nI (m := 4) (hi := 3) (by omega) (by decide) h
theorem s_copy {SO : St → Prop} (hSO : SOk SO) {N : Nat} (hN : 100 ≤ N) : ∀ cs ms, Rel SO cs ms → ∀ (a1 a2 a3 a4 a5 : Int32), StepI (Rel SO) (f_X5_copy cs a1 a2 a3 a4 a5) (f_X6_copy N ms a1 a2 a3 a4 a5) := by
  intro cs ms hR a1 a2 a3 a4 a5
  obtain ⟨-, -, -, -, hS, -⟩ := id hR
  have fs := fun v => fin_step hSO hR v
  unfold f_X5_copy f_X6_copy f_X4_isMissing
  simp only [bnd_s, isSheet_w]
  rcases isSheet_cases a1 with h1 | ⟨h1, q1, hq1, rfl⟩
  · rw [h1]; simp only [b2i_f, if_true]; exact fs _
  · rw [h1]; simp only [b2i_t, if_false]
    rcases isSheet_cases a3 with h3 | ⟨h3, q2, hq2, rfl⟩
    · rw [h3]; simp only [b2i_f, if_true]; exact fs _
    · rw [h3]; simp only [b2i_t, if_false]
      have ck4 : ∀ {β : Type} {q : Nat} (K : Nat → Option β), q < 4 → ck 4 (nI q) K = K q := fun K hq => ck_nI hq (by omega)
      rw [ck4 _ hq1, ck4 _ hq2, ck4 _ hq1, ck4 _ hq2]
      obtain ⟨b1, l1, -, -, L1, hL1, f1⟩ := hS q1 hq1
      obtain ⟨b2, l2, -, -, L2, hL2, f2⟩ := hS q2 hq2
      have g1 : cs 37 q1 = nI L1 := l1.trans f1
      have g2 : cs 37 q2 = nI L2 := l2.trans f2
      rw [b1, b2]
      by_cases z1 : ms 2 q1 = 0
      · rw [if_pos z1, if_pos z1]; simp only [b2i_t, if_false]; exact fs _
      · rw [if_neg z1, if_neg z1]; simp only [b2i_f, if_true]
        by_cases z2 : ms 2 q2 = 0
        · rw [if_pos z2, if_pos z2]; simp only [b2i_t, if_false]; exact fs _
        · rw [if_neg z2, if_neg z2]; simp only [b2i_f, if_true]
          rw [ck4 _ hq1, ck4 _ hq2]
          by_cases z3 : ms 2 q1 = ms 2 q2
          · rw [if_pos z3, if_pos z3]
            have nope : f_X4_hasStretch cs q1 a2 a5 = false ∨ f_X4_hasStretch cs q2 a4 a5 = false → ∀ T, StepI (Rel SO) (if b2i (f_X4_hasStretch cs q1 a2 a5) = 0 then bd2 (f_X5_finding cs (-100001 : Int32)) fun r_21 st_22 => some (r_21, st_22) else if b2i (f_X4_hasStretch cs q2 a4 a5) = 0 then bd2 (f_X5_finding cs (-100001 : Int32)) fun r_27 st_28 => some (r_27, st_28) else T) (bd2 (f_X6_finding ms (-100001 : Int32)) fun r st => some (r, st)) := by
              intro hh T
              rcases hh with hh | hh
              · rw [hh]; simp only [b2i_f, if_true]; exact fs _
              · rw [hh]; simp only [b2i_f, if_true]; rw [ite_self]; exact fs _
            by_cases n2 : a2 < 0
            · rw [if_pos n2]; exact nope (Or.inl (hs_f1 n2)) _
            · rw [if_neg n2]
              by_cases n4 : a4 < 0
              · rw [if_pos n4]; exact nope (Or.inr (hs_f1 n4)) _
              · rw [if_neg n4]
                by_cases n5 : a5 < 0
                · rw [if_pos n5]; exact nope (Or.inl (hs_f2 n5)) _
                · rw [if_neg n5]
                  obtain ⟨p, hp, rfl⟩ := nn_nI n2
                  obtain ⟨d, hd, rfl⟩ := nn_nI n4
                  obtain ⟨l, hl, rfl⟩ := nn_nI n5
                  rw [ck4 _ hq1, f1]
                  simp only [lgc_pos, lgc_np]
                  by_cases c1 : L1 < p + l
                  · rw [if_pos ((lg_sum hp hl (by omega)).mpr c1)]
                    exact nope (Or.inl (by rw [hs_nn g1 hL1 hp hl, decide_eq_false (by omega)])) _
                  · rw [if_neg (show ¬ (nI L1).toInt64 < (nI p).toInt64 + (nI l).toInt64 from fun q => c1 ((lg_sum hp hl (by omega)).mp q)), ck4 _ hq2, f2]
                    by_cases c2 : L2 < d + l
                    · rw [if_neg (show ¬ ¬ (nI L2).toInt64 < (nI d).toInt64 + (nI l).toInt64 from fun q => q ((lg_sum hd hl (by omega)).mpr c2))]
                      exact nope (Or.inr (by rw [hs_nn g2 hL2 hd hl, decide_eq_false (by omega)])) _
                    · rw [if_pos (show ¬ (nI L2).toInt64 < (nI d).toInt64 + (nI l).toInt64 from fun q => c2 ((lg_sum hd hl (by omega)).mp q)), hs_nn g1 hL1 hp hl, hs_nn g2 hL2 hd hl, decide_eq_true (by omega), decide_eq_true (by omega)]
                      simp only [b2i_t, if_false]
                      rw [acp_n (by omega) (by omega), copy1_m _ hN hq1 (by omega), copy2_m _ hN hq2 (by omega)]
                      refine ⟨_, _, _, rfl, rfl, hR.sheets hSO (fun c hc => sF_ne _ _ (by omega)) (fun c hc => by rw [sF_ne _ _ (by omega), sF_ne _ _ (by omega)]) ?_⟩
                      rw [sF_eq, sF_ne _ _ (show ¬ 4 = 5 by omega)]
                      exact sheet_copy hS hq1 hq2 (by omega) (by omega) _ (fun j hj => by unfold cpF; rw [if_pos hj])
          · rw [if_neg z3, if_neg z3]; exact fs _
/-! a cut -/
theorem v_andnot {v : Int32} {j : Nat} (hj : j < 32) : (v &&& (((1 : Int32) <<< (nI j &&& 31)) ^^^ (-1 : Int32)) = v) ↔ bt v j = false := by
  constructor
  · intro h
    rw [← h, b_and, b_not _ hj, b_bit hj hj, decide_eq_true rfl]
    exact Bool.and_false _
  · intro h
    apply b_ext
    intro i hi
    rw [b_and, b_not _ hi, b_bit hj hi]
    by_cases q : i = j
    · subst q; rw [h]; rfl
    · rw [decide_eq_false q]; exact Bool.and_true _
theorem v_or {v : Int32} {j : Nat} (hj : j < 32) : (v ||| ((1 : Int32) <<< (nI j &&& 31)) = v) ↔ bt v j = true := by
  constructor
  · intro h
    rw [← h, b_or, b_bit hj hj, decide_eq_true rfl]
    exact Bool.or_true _
  · intro h
    apply b_ext
    intro i hi
    rw [b_or, b_bit hj hi]
    by_cases q : i = j
    · subst q; rw [h]; rfl
    · rw [decide_eq_false q]; exact Bool.or_false _
theorem go_cut0 {n w i j : Nat} {a : Nat → Int32} {v : Int32} (hO : GO n w a) (hi : i < n) (ht : ∃ t, t < 2 ^ n ∧ v = nI t) (hr : ∃ rank : Nat → Nat, ∀ x y, x < n → y < n → bt (upd a (62 + i) v (62 + x)) y = true → rank y < rank x) : GO n w (upd a (62 + i) v) := by
  obtain ⟨g1, g2, g3, g4, g5, -⟩ := id hO
  refine ⟨g1, g2, by rw [upd_ne _ _ (by omega)]; exact g3, by rw [upd_ne _ _ (by omega)]; exact g4, fun f k hf hk => ?_, hr⟩
  by_cases q : 2 + 10 * f + k = 62 + i
  · have hf6 : f = 6 := by omega
    subst hf6
    rw [q, upd_eq]
    exact ⟨by omega, by omega, by omega, by omega, by omega, by omega, fun _ => ht⟩
  · rw [upd_ne _ _ q]
    exact g5 f k hf hk
theorem go_uncut {n w i j : Nat} {a : Nat → Int32} (hO : GO n w a) (hi : i < n) (hj : j < n) : GO n w (upd a (62 + i) (a (62 + i) &&& (((1 : Int32) <<< (nI j &&& 31)) ^^^ (-1 : Int32)))) := by
  have hn := hO.1
  obtain ⟨-, -, -, -, -, rank, hr⟩ := id hO
  refine go_cut0 (j := j) hO hi ?_ ⟨rank, fun x y hx hy hb => ?_⟩
  · rw [cN_eq a i, nI_bit (by omega), nI_andnot]
    exact ⟨_, Nat.lt_of_le_of_lt Nat.and_le_left (hO.cN_lt hi), rfl⟩
  · apply hr x y hx hy
    by_cases q : x = i
    · subst q
      rw [upd_eq, b_and] at hb
      cases h : bt (a (62 + x)) y
      · rw [h] at hb; cases hb
      · rfl
    · rw [upd_ne _ _ (by omega)] at hb
      exact hb
theorem go_docut {n w i j : Nat} {a : Nat → Int32} (hO : GO n w a) (hi : i < n) (hj : j < n) (hij : ¬ i = j) (hc : (cl (cN a) n (cN a j)).testBit i = false) : GO n w (upd a (62 + i) (a (62 + i) ||| ((1 : Int32) <<< (nI j &&& 31)))) := by
  have hn := hO.1
  have hel : ∀ g, g < n → cN a g < 2 ^ n := fun g hg => hO.cN_lt hg
  obtain ⟨-, -, -, -, -, rank, hr⟩ := id hO
  refine go_cut0 (j := j) hO hi ?_ ⟨fun v => rank v + (if v = i ∨ (cl (cN a) n (cN a v)).testBit i = true then rank j + 1 else 0), fun x y hx hy hb => ?_⟩
  · rw [cN_eq a i, nI_bit (by omega), nI_or]
    refine ⟨_, Nat.or_lt_two_pow (hO.cN_lt hi) (Nat.pow_lt_pow_right (by omega) hj), rfl⟩
  · have old : bt (a (62 + x)) y = true → rank y + (if y = i ∨ (cl (cN a) n (cN a y)).testBit i = true then rank j + 1 else 0) < rank x + (if x = i ∨ (cl (cN a) n (cN a x)).testBit i = true then rank j + 1 else 0) := by
      intro hb
      have hlt := hr x y hx hy hb
      by_cases hy2 : y = i ∨ (cl (cN a) n (cN a y)).testBit i = true
      · have hyx : (cl (cN a) n (cN a x)).testBit y = true := cl_ge _ _ _ y hb
        have hxi : (cl (cN a) n (cN a x)).testBit i = true := by
          rcases hy2 with rfl | h
          · exact hyx
          · exact cl_le (cN a) n (cN a y) _ (cl_in (hel x hx) hel hy hyx) (fun g hg hb => cl_in (hel x hx) hel hg hb) i h
        rw [if_pos hy2, if_pos (Or.inr hxi)]
        omega
      · rw [if_neg hy2]
        omega
    show rank y + (if y = i ∨ (cl (cN a) n (cN a y)).testBit i = true then rank j + 1 else 0) < rank x + (if x = i ∨ (cl (cN a) n (cN a x)).testBit i = true then rank j + 1 else 0)
    by_cases q : x = i
    · subst q
      rw [upd_eq, b_or, b_bit (by omega) (by omega)] at hb
      by_cases hyj : y = j
      · subst hyj
        rw [if_neg (fun h => by rcases h with h | h; exact hij h.symm; rw [hc] at h; cases h), if_pos (Or.inl rfl)]
        omega
      · rw [decide_eq_false hyj, Bool.or_false] at hb
        exact old hb
    · rw [upd_ne _ _ (by omega)] at hb
      exact old hb
theorem s_cut {SO : St → Prop} (hSO : SOk SO) {N : Nat} (hN : 100 ≤ N) : ∀ cs ms, Rel SO cs ms → ∀ (a1 a2 : Int32) (a3 : Bool), StepI (Rel SO) (f_X5_cut N cs a1 a2 a3) (f_X6_cut N ms a1 a2 a3) := by
  intro cs ms hR a1 a2 a3
  obtain ⟨hG, ⟨n, w, hO⟩, -, -, -, hso⟩ := id hR
  have hn := hO.1
  unfold f_X5_cut f_X6_cut
  simp only [bnd_s]
  rcases gr_cases hG.1 hO.2.2.1 hn a1 with ⟨q1, q2⟩ | ⟨q1, q2, i, hi, rfl⟩
  · rw [q1, q2]; simp only [b2i_f, if_true]; exact fin_step hSO hR _
  · rw [q1, q2]; simp only [b2i_t, if_false]
    rcases gr_cases hG.1 hO.2.2.1 hn a2 with ⟨q1, q2⟩ | ⟨q1, q2, j, hj, rfl⟩
    · rw [q1, q2]; simp only [b2i_f, if_true]; exact fin_step hSO hR _
    · rw [q1, q2]; simp only [b2i_t, if_false]
      by_cases hij : i = j
      · subst hij; rw [if_pos rfl, if_pos rfl]; exact fin_step hSO hR _
      · have hijI : ¬ nI i = nI j := fun q => hij (nI_inj (by omega) (by omega) q)
        rw [if_neg hijI, if_neg hijI]
        have e6 : ∀ st : St, st 6 = cs 6 → st 6 i = ms 0 (62 + i) := fun st h => by rw [h]; exact hG.at 6 (by omega) (by omega)
        have cc : (cN (ms 0) i).testBit j = bt (ms 0 (62 + i)) j := rfl
        cases a3
        · simp only [b2i_f, if_true]
          rw [doesCut_m hO hi hj, bd1_s, ck_62 (by omega) (by omega), sto_62 (by omega) (by omega)]
          unfold f_X2_setCut
          simp only [bnd_s, b2i_f, if_true, ck_nI (show i < 10 by omega) (show i < 2 ^ 31 by omega), sU_eq, upd_eq, e6 cs rfl, v_andnot (v := ms 0 (62 + i)) (show j < 32 by omega), cc]
          have hR' : Rel SO (sU cs 6 i (ms 0 (62 + i) &&& (((1 : Int32) <<< (nI j &&& 31)) ^^^ (-1 : Int32)))) (sU ms 0 (62 + i) (ms 0 (62 + i) &&& (((1 : Int32) <<< (nI j &&& 31)) ^^^ (-1 : Int32)))) := by
            refine hR.ground hSO (n := n) (w := w) (fun c hc => sU_ne _ _ _ (by omega)) (fun c hc => sU_ne _ _ _ (by omega)) ?_ ?_
            · rw [sU_eq]; exact gr_set (f0 := 6) hG (by omega) (by omega)
            · rw [sU_eq]; exact go_uncut hO hi hj
          cases bt (ms 0 (62 + i)) j
          · exact ⟨_, _, _, rfl, rfl, hR'⟩
          · exact ⟨_, _, _, rfl, rfl, hR'⟩
        · simp only [b2i_t, if_false]
          rw [below_m hO hN hj, earlier_c hG hO hN hj, bd1_s, bd2_s, isIn_bt _ (by omega), b_tst _ (by omega), nI_bt (by omega)]
          have hR1 : Rel SO (stp cs (cs 6) n) ms := hR.scratch (fun c h _ => stp_ne _ _ _ h) (hSO _ _ (fun c h1 h2 => stp_ne _ _ _ (by omega)) hso) (fun _ _ => rfl) ⟨rfl, rfl⟩
          cases hcl : (cl (cN (ms 0)) n (cN (ms 0) j)).testBit i
          · simp only [b2i_f, if_true]
            rw [if_neg (show ¬ b2i false = (1 : Int32) by decide), doesCut_m hO hi hj, bd1_s, ck_62 (by omega) (by omega), sto_62 (by omega) (by omega)]
            unfold f_X2_setCut
            simp only [bnd_s, b2i_t, if_false, ck_nI (show i < 10 by omega) (show i < 2 ^ 31 by omega), sU_eq, upd_eq, e6 (stp cs (cs 6) n) (stp_ne _ _ _ (by omega)), v_or (v := ms 0 (62 + i)) (show j < 32 by omega), cc]
            have hR' : Rel SO (sU (stp cs (cs 6) n) 6 i (ms 0 (62 + i) ||| ((1 : Int32) <<< (nI j &&& 31)))) (sU ms 0 (62 + i) (ms 0 (62 + i) ||| ((1 : Int32) <<< (nI j &&& 31)))) := by
              refine hR1.ground hSO (n := n) (w := w) (fun c hc => sU_ne _ _ _ (by omega)) (fun c hc => sU_ne _ _ _ (by omega)) ?_ ?_
              · rw [sU_eq]; exact gr_set (f0 := 6) hR1.1 (by omega) (by omega)
              · rw [sU_eq]; exact go_docut hO hi hj hij hcl
            cases bt (ms 0 (62 + i)) j
            · exact ⟨_, _, _, rfl, rfl, hR'⟩
            · exact ⟨_, _, _, rfl, rfl, hR'⟩
          · simp only [b2i_t, if_false]
            rw [if_pos (show b2i true = (1 : Int32) by decide)]
            exact fin_step hSO hR1 _
