/-! sheets -/
theorem sU_sF (st : St) (c j : Nat) (f : Nat → Int32) (v : Int32) : sU (sF st c f) c j v = sF st c (upd f j v) := by
  funext c'
  by_cases h : c' = c
  · subst h; rw [sU_eq, sF_eq, sF_eq]
  · rw [sU_ne _ _ _ h, sF_ne _ _ h, sF_ne _ _ h]
theorem sF_self (st : St) (c : Nat) : sF st c (st c) = st := by
  funext c'
  by_cases h : c' = c
  · subst h; rw [sF_eq]
  · rw [sF_ne _ _ h]
theorem idx12 (q i : Nat) : (12 : Int32) * nI q + nI i = nI (12 * q + i) := by
  rw [show (12 : Int32) * nI q = nI (12 * q) from pk_mul 12 q, nI_add]
def zf (f : Nat → Int32) (a i : Nat) : Nat → Int32 := fun j => if a ≤ j ∧ j < a + i then 0 else f j
theorem zf_succ (f : Nat → Int32) (a i : Nat) : upd (zf f a i) (a + i) 0 = zf f a (i + 1) := by
  funext j
  unfold upd zf
  by_cases h : j = a + i
  · rw [if_pos h, if_pos (by omega)]
  · rw [if_neg h]
    by_cases h2 : a ≤ j ∧ j < a + i
    · rw [if_pos h2, if_pos (by omega)]
    · rw [if_neg h2, if_neg (by omega)]
theorem zf_0 (f : Nat → Int32) (a : Nat) : zf f a 0 = f := by
  funext j
  unfold zf
  rw [if_neg (by omega)]
theorem zero_c {st : St} {N q : Nat} (K : Int32 → St → Option St) (hN : 100 ≤ N) : f_X4_become_L20 N q K N 0 st = K (nI 12) (sF st (32 + q) (zf (st (32 + q)) 0 12)) := by
  have h := loopF (fun fuel s i => f_X4_become_L20 N q K fuel i s) (fun s => K (nI 12) s) 12 (fun i => sF st (32 + q) (zf (st (32 + q)) 0 i)) (fun i fuel hi => ?_) (fun fuel => ?_) 12 0 N (by omega) (by omega)
  · simpa [zf_0, sF_self, nI_0] using h
  · show f_X4_become_L20 N q K (fuel + 1) (nI i) _ = _
    rw [f_X4_become_L20, if_neg (show ¬ ((12 : Int32) ≤ nI i) from nI_ge (b := 12) hi (by omega)), sto_nI hi (by omega), sU_sF, nI_1]
    have := zf_succ (st (32 + q)) 0 i
    rw [Nat.zero_add] at this
    rw [this]
  · show f_X4_become_L20 N q K (fuel + 1) (nI 12) _ = _
    rw [f_X4_become_L20, if_pos (by decide)]
theorem zero_m {st : St} {N q : Nat} (K : Int32 → St → Option (Int32 × St)) (hN : 100 ≤ N) (hq : q < 4) : f_X6_sheet_L85 N (nI q) K N 0 st = K (nI 12) (sF st 4 (zf (st 4) (12 * q) 12)) := by
  have h := loopF (fun fuel s i => f_X6_sheet_L85 N (nI q) K fuel i s) (fun s => K (nI 12) s) 12 (fun i => sF st 4 (zf (st 4) (12 * q) i)) (fun i fuel hi => ?_) (fun fuel => ?_) 12 0 N (by omega) (by omega)
  · simpa [zf_0, sF_self, nI_0] using h
  · show f_X6_sheet_L85 N (nI q) K (fuel + 1) (nI i) _ = _
    rw [f_X6_sheet_L85, if_neg (show ¬ ((12 : Int32) ≤ nI i) from nI_ge (b := 12) hi (by omega)), idx12, sto_nI (by omega) (by omega), sU_sF, nI_1, zf_succ]
  · show f_X6_sheet_L85 N (nI q) K (fuel + 1) (nI 12) _ = _
    rw [f_X6_sheet_L85, if_pos (by decide)]
/-- only the sheets have changed -/
theorem Rel.sheets {SO : St → Prop} {cs cs' ms ms' : St} (hSO : SOk SO) (hR : Rel SO cs ms) (hc : ∀ c, ¬ (32 ≤ c ∧ c < 38) → cs' c = cs c) (hm : ∀ c, ¬ (2 ≤ c ∧ c < 6) → ms' c = ms c) (hS : ShR cs' ms') : Rel SO cs' ms' := by
  obtain ⟨g1, ⟨n, w, g2⟩, ⟨h1, h2⟩, h3, -, h5⟩ := hR
  refine ⟨g1.congr (fun c _ _ => hc (0 + c) (by omega)) (hm 0 (by omega)), ⟨n, w, by rw [hm 0 (by omega)]; exact g2⟩, ⟨by rw [hc 51 (by omega), hm 10 (by omega)]; exact h1, by rw [hc 51 (by omega), hm 10 (by omega)]; exact h2⟩, fun hk => ?_, hS, hSO _ _ (fun c _ _ => hc c (by omega)) h5⟩
  rw [hm 10 (by omega)] at hk
  obtain ⟨q1, n', w', q2⟩ := h3 hk
  exact ⟨q1.congr (fun c _ _ => hc (16 + c) (by omega)) (hm 1 (by omega)), n', w', by rw [hm 1 (by omega)]; exact q2⟩
theorem sheet_new {cs ms : St} (hS : ShR cs ms) {q : Nat} (hq : q < 4) {b l : Int32} (hb : b = 0 ∨ b = 8 ∨ b = 16 ∨ b = 32) (hl : ∃ L, L ≤ 12 ∧ l = nI L) : ShR (sF (sU (sU cs 36 q b) 37 q l) (32 + q) (zf (sU (sU cs 36 q b) 37 q l (32 + q)) 0 12)) (sF (sU (sU ms 2 q b) 3 q l) 4 (zf (sU (sU ms 2 q b) 3 q l 4) (12 * q) 12)) := by
  intro r hr
  obtain ⟨h1, h2, h3, h4, h5⟩ := hS r hr
  have e36 : sF (sU (sU cs 36 q b) 37 q l) (32 + q) (zf (sU (sU cs 36 q b) 37 q l (32 + q)) 0 12) 36 r = upd (cs 36) q b r := by
    rw [sF_ne _ _ (by omega), sU_ne _ _ _ (by omega), sU_eq]
  have e37 : sF (sU (sU cs 36 q b) 37 q l) (32 + q) (zf (sU (sU cs 36 q b) 37 q l (32 + q)) 0 12) 37 r = upd (cs 37) q l r := by
    rw [sF_ne _ _ (by omega), sU_eq, sU_ne _ _ _ (by omega)]
  have f2 : sF (sU (sU ms 2 q b) 3 q l) 4 (zf (sU (sU ms 2 q b) 3 q l 4) (12 * q) 12) 2 r = upd (ms 2) q b r := by
    rw [sF_ne _ _ (by omega), sU_ne _ _ _ (by omega), sU_eq]
  have f3 : sF (sU (sU ms 2 q b) 3 q l) 4 (zf (sU (sU ms 2 q b) 3 q l 4) (12 * q) 12) 3 r = upd (ms 3) q l r := by
    rw [sF_ne _ _ (by omega), sU_eq, sU_ne _ _ _ (by omega)]
  have f4 : ∀ j, sF (sU (sU ms 2 q b) 3 q l) 4 (zf (sU (sU ms 2 q b) 3 q l 4) (12 * q) 12) 4 j = zf (ms 4) (12 * q) 12 j := fun j => by
    rw [sF_eq, sU_ne _ _ _ (by omega), sU_ne _ _ _ (by omega)]
  rw [e36, e37, f2, f3]
  by_cases hrq : r = q
  · subst hrq
    rw [upd_eq, upd_eq, upd_eq, upd_eq]
    refine ⟨rfl, rfl, fun i hi => ?_, hb, hl⟩
    rw [f4, sF_eq]
    unfold zf
    rw [if_pos (by omega), if_pos (by omega)]
  · rw [upd_ne _ _ hrq, upd_ne _ _ hrq, upd_ne _ _ hrq, upd_ne _ _ hrq]
    refine ⟨h1, h2, fun i hi => ?_, h4, h5⟩
    rw [f4, sF_ne _ _ (by omega), sU_ne _ _ _ (by omega), sU_ne _ _ _ (by omega)]
    unfold zf
    rw [if_neg (by omega)]
    exact h3 i hi
theorem s_sheet {SO : St → Prop} (hSO : SOk SO) {N : Nat} (hN : 100 ≤ N) : ∀ cs ms, Rel SO cs ms → ∀ (a1 a2 a3 : Int32), StepI (Rel SO) (f_X5_sheet N cs a1 a2 a3) (f_X6_sheet N ms a1 a2 a3) := by
  intro cs ms hR a1 a2 a3
  have hS := hR.2.2.2.2.1
  unfold f_X5_sheet
  simp only [bnd_s, isSheet_w]
  unfold f_X6_sheet
  simp only [bnd_s]
  cases h : f_X6_isSheet a1
  · simp only [b2i_f, if_true]; exact fin_step hSO hR _
  · simp only [b2i_t, if_false]
    obtain ⟨q, hq, rfl⟩ := w_nI (m := 4) (by omega) (by decide) (show f_X6_within a1 0 3 = true from h)
    have body : ∀ b : Int32, (b = 0 ∨ b = 8 ∨ b = 16 ∨ b = 32) → StepI (Rel SO) (if 0 ≤ a3 then if a3 ≤ 12 then ck 4 (nI q) fun j_10 => bd1 (f_X4_become N cs j_10 b a3) fun st_12 => ck 4 (nI q) fun j_13 => some (st_12 37 j_13, st_12) else bd2 (f_X5_finding cs (-100001 : Int32)) fun r_15 st_16 => some (r_15, st_16) else bd2 (f_X5_finding cs (-100003 : Int32)) fun r_18 st_19 => some (r_18, st_19)) (if 0 ≤ a3 then if a3 ≤ 12 then sto 4 ms 2 (nI q) b fun st_9 => if b = 0 then sto 4 st_9 3 (nI q) 0 fun st_17 => f_X6_sheet_L85 N (nI q) (fun a_18 st_19 => ck 4 (nI q) fun j_20 => some (st_19 3 j_20, st_19)) N 0 st_17 else sto 4 st_9 3 (nI q) a3 fun st_11 => f_X6_sheet_L85 N (nI q) (fun a_14 st_15 => ck 4 (nI q) fun j_16 => some (st_15 3 j_16, st_15)) N 0 st_11 else bd2 (f_X6_finding ms (-100001 : Int32)) fun r_22 st_23 => some (r_22, st_23) else bd2 (f_X6_finding ms (-100003 : Int32)) fun r_25 st_26 => some (r_25, st_26)) := by
      intro b hb
      by_cases h0 : 0 ≤ a3
      · rw [if_pos h0, if_pos h0]
        by_cases h12 : a3 ≤ 12
        · rw [if_pos h12, if_pos h12]
          have hl : ∃ L, L ≤ 12 ∧ a3 = nI L := by
            rw [i32_le] at h0 h12
            have q1 : (12 : Int32).toInt = 12 := by decide
            have q2 : (0 : Int32).toInt = 0 := by decide
            obtain ⟨L, hL, e⟩ := in_range (x := a3) (m := 13) (by omega) ⟨by omega, by omega⟩
            exact ⟨L, by omega, e⟩
          rw [ck_nI (by omega) (by omega), sto_nI (by omega) (by omega)]
          unfold f_X4_become
          simp only [bnd_s]
          have fin : ∀ l : Int32, (∃ L, L ≤ 12 ∧ l = nI L) → StepI (Rel SO) (bd1 (f_X4_become_L20 N q (fun a_9 st_10 => some st_10) N 0 (sU (sU cs 36 q b) 37 q l)) fun st_12 => ck 4 (nI q) fun j_13 => some (st_12 37 j_13, st_12)) (sto 4 (sU ms 2 q b) 3 (nI q) l fun st_17 => f_X6_sheet_L85 N (nI q) (fun a_18 st_19 => ck 4 (nI q) fun j_20 => some (st_19 3 j_20, st_19)) N 0 st_17) := by
            intro l hl
            rw [sto_nI (by omega) (by omega), zero_c _ hN, zero_m _ hN hq, bd1_s, ck_nI (by omega) (by omega), ck_nI (by omega) (by omega)]
            have hS2 := sheet_new hS hq hb hl
            refine ⟨l, _, _, ?_, ?_, hR.sheets hSO ?_ ?_ hS2⟩
            · rw [sF_ne _ _ (by omega), sU_eq, upd_eq]
            · rw [sF_ne _ _ (by omega), sU_eq, upd_eq]
            · intro c hc
              rw [sF_ne _ _ (by omega), sU_ne _ _ _ (by omega), sU_ne _ _ _ (by omega)]
            · intro c hc
              rw [sF_ne _ _ (by omega), sU_ne _ _ _ (by omega), sU_ne _ _ _ (by omega)]
          by_cases hb0 : b = 0
          · rw [if_pos hb0, if_pos hb0]
            exact fin 0 ⟨0, by omega, rfl⟩
          · rw [if_neg hb0, if_neg hb0]
            exact fin a3 hl
        · rw [if_neg h12, if_neg h12]; exact fin_step hSO hR _
      · rw [if_neg h0, if_neg h0]; exact fin_step hSO hR _
    by_cases h0 : a2 = 0
    · subst h0
      rw [if_pos rfl, show f_X5_isWidth 0 = true from rfl]; simp only [b2i_t, if_false]
      exact body 0 (Or.inl rfl)
    · rw [if_neg h0]
      by_cases h8 : a2 = 8
      · subst h8
        rw [if_pos rfl, show f_X5_isWidth 8 = true from rfl]; simp only [b2i_t, if_false]
        exact body 8 (Or.inr (Or.inl rfl))
      · rw [if_neg h8]
        by_cases h16 : a2 = 16
        · subst h16
          rw [if_pos rfl, show f_X5_isWidth 16 = true from rfl]; simp only [b2i_t, if_false]
          exact body 16 (Or.inr (Or.inr (Or.inl rfl)))
        · rw [if_neg h16]
          by_cases h32 : a2 = 32
          · subst h32
            rw [if_pos rfl, show f_X5_isWidth 32 = true from rfl]; simp only [b2i_t, if_false]
            exact body 32 (Or.inr (Or.inr (Or.inr rfl)))
          · rw [if_neg h32, show f_X5_isWidth a2 = false from by unfold f_X5_isWidth; rw [if_neg h0, if_neg h8, if_neg h16, if_neg h32]]
            simp only [b2i_f, if_true]; exact fin_step hSO hR _
