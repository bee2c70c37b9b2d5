/-! numbers of sheets, goods read off them -/
theorem sheet_put {cs ms : St} (hS : ShR cs ms) {q i : Nat} (hq : q < 4) (hi : i < 12) (v : Int32) : ShR (sU cs (32 + q) i v) (sU ms 4 (12 * q + i) v) := by
  intro r hr
  obtain ⟨h1, h2, h3, h4, h5⟩ := hS r hr
  rw [sU_ne _ _ _ (by omega), sU_ne _ _ _ (by omega), sU_ne _ _ _ (by omega), sU_ne _ _ _ (by omega)]
  refine ⟨h1, h2, fun j hj => ?_, h4, h5⟩
  rw [sU_eq]
  by_cases hrq : r = q
  · subst hrq
    rw [sU_eq]
    by_cases hji : j = i
    · subst hji; rw [upd_eq, upd_eq]
    · rw [upd_ne _ _ hji, upd_ne _ _ (by omega)]; exact h3 j hj
  · rw [sU_ne _ _ _ (by omega), upd_ne _ _ (by omega)]; exact h3 j hj
theorem s_put {SO : St → Prop} (hSO : SOk SO) : ∀ cs ms, Rel SO cs ms → ∀ (a1 a2 a3 : Int32), StepI (Rel SO) (f_X5_put cs a1 a2 a3) (f_X6_put ms a1 a2 a3) := by
  intro cs ms hR a1 a2 a3
  have hS := hR.2.2.2.2.1
  unfold f_X5_put f_X6_put
  simp only [bnd_s, isSheet_w]
  cases h : f_X6_isSheet a1
  · simp only [b2i_f, if_true]; exact fin_step hSO hR _
  · simp only [b2i_t, if_false]
    obtain ⟨q, hq, rfl⟩ := w_nI (m := 4) (by omega) (by decide) (show f_X6_within a1 0 3 = true from h)
    obtain ⟨h1, h2, h3, h4, L, hL, eL⟩ := hS q hq
    have ck4 : ∀ {β : Type} (K : Nat → Option β), ck 4 (nI q) K = K q := fun K => ck_nI hq (by omega)
    simp only [ck4]
    unfold f_X4_isMissing
    rw [h1]
    by_cases hm : ms 2 q = 0
    · rw [if_pos hm, if_pos hm]; simp only [b2i_t, if_false]; exact fin_step hSO hR _
    · rw [if_neg hm, if_neg hm]; simp only [b2i_f, if_true]
      rw [h2, eL]
      by_cases hx : a2 < 0
      · rw [if_pos hx, w_f1 hx]; simp only [b2i_f, if_true]; exact fin_step hSO hR _
      · rw [if_neg hx]
        have e1 : (nI L - 1).toInt = (L : Int) - 1 := pk_sub_toInt (a := L) (b := 1) (by omega) (by omega)
        have e2 : (nI L).toInt = (L : Int) := nI_toInt (by omega)
        by_cases hy : a2 < nI L
        · have hy2 : a2 ≤ nI L - 1 := by rw [i32_le, e1]; rw [i32_lt, e2] at hy; omega
          have hx2 := hx
          have hy3 := hy
          rw [i32_lt] at hx2
          rw [i32_lt, e2] at hy3
          have q2 : (0 : Int32).toInt = 0 := by decide
          obtain ⟨i, hi, rfl⟩ := in_range (x := a2) (m := L) (by omega) ⟨by omega, by omega⟩
          rw [if_pos hy, w_t hx hy2]; simp only [b2i_t, if_false]
          unfold f_X4_write
          rw [h1, idx12]
          have fin : ∀ v : Int32, StepI (Rel SO) (bd1 (sto 12 cs (32 + q) (nI i) v fun st_2 => some st_2) fun st_14 => some (0, st_14)) (sto 48 ms 4 (nI (12 * q + i)) v fun st_14 => some (0, st_14)) := by
            intro v
            rw [sto_nI (by omega) (by omega), sto_nI (by omega) (by omega)]
            exact ⟨_, _, _, rfl, rfl, hR.sheets hSO (fun c hc => sU_ne _ _ _ (by omega)) (fun c hc => sU_ne _ _ _ (by omega)) (sheet_put hS hq (by omega) v)⟩
          rcases h4 with e | e | e | e
          · exact absurd e hm
          · rw [e, if_neg (by decide), if_pos rfl]
            rw [show ((1 : Int32) <<< ((8 : Int32) &&& 31)) - 1 = 255 from by decide]
            exact fin _
          · rw [e, if_neg (by decide), if_neg (by decide), if_pos rfl]
            rw [show ((1 : Int32) <<< ((16 : Int32) &&& 31)) - 1 = 65535 from by decide]
            exact fin _
          · rw [e, if_pos rfl, if_neg (by decide), if_neg (by decide)]
            exact fin _
        · have hy2 : ¬ a2 ≤ nI L - 1 := by rw [i32_le, e1]; rw [i32_lt, e2] at hy; omega
          rw [if_neg hy, w_f2 hx hy2]; simp only [b2i_f, if_true]; exact fin_step hSO hR _
def rdv (f : Nat → Int32) (s : Int32) : Nat → Int32
  | 0 => s
  | i + 1 => if f i = 0 then rdv f s i &&& (((1 : Int32) <<< (nI i &&& 31)) ^^^ (-1 : Int32)) else rdv f s i ||| ((1 : Int32) <<< (nI i &&& 31))
theorem rdv_lt (f : Nat → Int32) {s : Nat} (hs : s < 4096) : ∀ i, i ≤ 12 → ∃ t, t < 4096 ∧ rdv f (nI s) i = nI t := by
  intro i
  induction i with
  | zero => intro _; exact ⟨s, hs, rfl⟩
  | succ i ih =>
    intro hi
    obtain ⟨t, ht, e⟩ := ih (by omega)
    unfold rdv
    rw [e, nI_bit (by omega)]
    split
    · refine ⟨_, ?_, nI_andnot _ _⟩
      exact lt_pow_of_bits (m := 12) (fun j hj => by rw [Nat.testBit_and, bit_lt (m := 12) ht hj]; rfl)
    · refine ⟨_, ?_, nI_or _ _⟩
      exact lt_pow_of_bits (m := 12) (fun j hj => by
        rw [Nat.testBit_or, bit_lt (m := 12) ht hj, Nat.testBit_two_pow]
        simp; omega)
theorem rdv_congr {f g : Nat → Int32} {s : Int32} : ∀ i, (∀ j, j < i → f j = g j) → rdv f s i = rdv g s i := by
  intro i
  induction i with
  | zero => intro _; rfl
  | succ i ih =>
    intro h
    unfold rdv
    rw [ih (fun j hj => h j (by omega)), h i (by omega)]
theorem read_c {cs : St} {N q L : Nat} {s : Int32} (hN : 100 ≤ N) (hL : L ≤ 12) (e : cs 37 q = nI L) : f_X4_goodsReadInto N cs q s = some (rdv (cs (32 + q)) s L) := by
  unfold f_X4_goodsReadInto
  refine loopF (fun fuel s i => f_X4_goodsReadInto_L4 N q cs (fun a_6 _ => some a_6) fuel s i) (fun s => some s) L (fun i => rdv (cs (32 + q)) s i) (fun i fuel hi => ?_) (fun fuel => ?_) L 0 N (by omega) (by omega)
  · show f_X4_goodsReadInto_L4 N q cs _ (fuel + 1) _ _ = _
    rw [f_X4_goodsReadInto_L4, e, if_neg (nI_ge hi (by omega)), ck_nI (by omega) (by omega)]
    simp only [bnd_s]
    rw [nI_1]
    show _ = f_X4_goodsReadInto_L4 N q cs _ fuel (if cs (32 + q) i = 0 then _ else _) _
    split <;> rfl
  · show f_X4_goodsReadInto_L4 N q cs _ (fuel + 1) _ _ = _
    rw [f_X4_goodsReadInto_L4, e, if_pos (nI_le (Nat.le_refl L) (by omega))]
theorem read_m {ms : St} {N q L : Nat} {s x1 : Int32} (K : Int32 → Int32 → Option (Int32 × St)) (hN : 100 ≤ N) (hL : L ≤ 12) (hq : q < 4) (e : ms 3 q = nI L) : f_X6_read_L51 N x1 (nI q) ms K N s 0 = K (rdv (fun i => ms 4 (12 * q + i)) s L) (nI L) := by
  refine loopF (fun fuel s i => f_X6_read_L51 N x1 (nI q) ms K fuel s i) (fun s => K s (nI L)) L (fun i => rdv (fun i => ms 4 (12 * q + i)) s i) (fun i fuel hi => ?_) (fun fuel => ?_) L 0 N (by omega) (by omega)
  · show f_X6_read_L51 N x1 (nI q) ms K (fuel + 1) _ _ = _
    rw [f_X6_read_L51, ck_nI (by omega) (by omega), e, if_neg (nI_ge hi (by omega)), idx12, ck_nI (by omega) (by omega)]
    simp only [bnd_s]
    rw [nI_1]
    show _ = f_X6_read_L51 N x1 (nI q) ms K fuel (if ms 4 (12 * q + i) = 0 then _ else _) _
    split <;> rfl
  · show f_X6_read_L51 N x1 (nI q) ms K (fuel + 1) _ _ = _
    rw [f_X6_read_L51, ck_nI (by omega) (by omega), e, if_pos (nI_le (Nat.le_refl L) (by omega))]
theorem s_read {SO : St → Prop} (hSO : SOk SO) {N : Nat} (hN : 100 ≤ N) : ∀ cs ms, Rel SO cs ms → ∀ (a1 a2 : Int32), StepI (Rel SO) (f_X5_read N cs a1 a2) (f_X6_read N ms a1 a2) := by
  intro cs ms hR a1 a2
  obtain ⟨hG, ⟨n, w, hO⟩, -, -, hS, -⟩ := id hR
  have hn := hO.1
  unfold f_X5_read f_X6_read
  simp only [bnd_s, isSheet_w]
  rcases gr_cases hG.1 hO.2.2.1 hn a1 with ⟨e1, e2⟩ | ⟨e1, e2, k, hk, rfl⟩
  · rw [e1, e2]; simp only [b2i_f, if_true]; exact fin_step hSO hR _
  · rw [e1, e2]; simp only [b2i_t, if_false]
    cases h : f_X6_isSheet a2
    · simp only [b2i_f, if_true]; exact fin_step hSO hR _
    · simp only [b2i_t, if_false]
      obtain ⟨q, hq, rfl⟩ := w_nI (m := 4) (by omega) (by decide) (show f_X6_within a2 0 3 = true from h)
      obtain ⟨h1, h2, h3, h4, L, hL, eL⟩ := hS q hq
      have ck4 : ∀ {β : Type} (K : Nat → Option β), ck 4 (nI q) K = K q := fun K => ck_nI hq (by omega)
      have ck10 : ∀ {β : Type} (K : Nat → Option β), ck 10 (nI k) K = K k := fun K => ck_nI (by omega) (by omega)
      simp only [ck4, ck10]
      unfold f_X4_isMissing
      rw [h1]
      by_cases hm : ms 2 q = 0
      · rw [if_pos hm, if_pos hm]; simp only [b2i_t, if_false]; exact fin_step hSO hR _
      · rw [if_neg hm, if_neg hm]; simp only [b2i_f, if_true]
        have e3 : cs 3 k = ms 0 (32 + k) := hG.at 3 (by omega) (by omega)
        rw [read_c hN hL (h2.trans eL), bd1_s, ck_32 (by omega) (by omega), read_m _ hN hL hq eL, e3, sto_32 (by omega) (by omega)]
        rw [rdv_congr (g := fun i => ms 4 (12 * q + i)) L (fun j hj => h3 j (by omega))]
        obtain ⟨t, ht, et⟩ := rdv_lt (fun i => ms 4 (12 * q + i)) (hO.gN_lt hk) L hL
        rw [gN_eq (ms 0) k, et, many_nI (by omega) ht, bd1_s, sU_eq, upd_eq, bc_nI ht]
        exact ⟨_, _, _, rfl, rfl, wr_step (f0 := 3) hSO hR hO (by omega) (by omega) (by omega) (fun _ => ⟨by omega, by omega, by omega, fun _ => ⟨t, ht, rfl⟩, by omega, by omega, by omega⟩)⟩
