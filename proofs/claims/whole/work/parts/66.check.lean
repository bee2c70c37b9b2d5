/-! the row that is told -/
theorem andnot_0 {c S : Nat} (hc : c < 2 ^ 31) : (nI c &&& (nI S ^^^ (-1 : Int32)) = 0) ↔ sub c S := by
  rw [b_zero]
  constructor
  · intro h i hi
    rcases Nat.lt_or_ge i 31 with q | q
    · have := h i (by omega)
      rw [b_and, b_not _ (by omega), nI_bt (by omega), nI_bt (by omega), hi] at this
      cases hs : S.testBit i
      · rw [hs] at this; cases this
      · rfl
    · rw [bit_lt hc q] at hi; cases hi
  · intro h i hi
    rw [b_and, b_not _ hi, nI_bt hi, nI_bt hi]
    cases hci : c.testBit i
    · rfl
    · rw [h i hci]; rfl
theorem isGrave_m1 {ms : St} : f_X6_isGrave ms (-1) = false := by
  unfold f_X6_isGrave bnd
  exact w_f1 (by decide)
theorem check_loop {SO : St → Prop} {cs ms : St} {N n w0 w : Nat} (hN : 100 ≤ N) (hR : Rel SO cs ms) (hO : GO n w0 (ms 0)) (hw : w ≤ 12) : ∀ d i fuel S st, i + d = n → d < fuel → (∀ c, ¬ c = 7 → st c = ms c) → (∀ j, j < i → st 7 j = nI (tn (ms 0 (104 + j))) ∧ tn (ms 0 (104 + j)) < n) → S = rs (fun j => tn (ms 0 (104 + j))) i → (∀ j k, j < i → k < i → tn (ms 0 (104 + j)) = tn (ms 0 (104 + k)) → j = k) → (∀ g, g < n → S.testBit g = true → sub (cN (ms 0) g) S) → i ≤ w → StepI (Rel SO) (f_X5_check_L37 N (nI w) cs (fun a_10 a_11 => if nI w ≤ cs 13 0 then bd1 (f_X2_costOfWaiting N cs) fun r_14 => some (r_14, cs) else some (-12, cs)) fuel (nI S) (nI i)) (f_X6_check_L34 N (nI w) (fun a_24 a_25 st_26 => if nI w ≤ st_26 0 0 then bd1 (f_X6_holesIn N st_26 7 4095) fun r_29 => some (r_29, st_26) else some (-12, st_26)) fuel (nI S) (nI i) st) := by
  have hn := hO.1
  have hG := hR.1
  have e0 : ms 0 0 = nI n := hO.2.2.1
  have e1 : cs 13 0 = nI n := hG.1.trans e0
  have hso := hR.2.2.2.2.2
  have hel : ∀ g, g < n → cN (ms 0) g < 2 ^ n := fun g hg => hO.cN_lt hg
  have keep : ∀ st : St, (∀ c, ¬ c = 7 → st c = ms c) → Rel SO cs st := fun st h => hR.scratch (fun _ _ _ => rfl) hso (fun c hc => h c (by omega)) ⟨by rw [h 10 (by omega)], by rw [h 10 (by omega)]⟩
  simp only [e1]
  intro d
  induction d with
  | zero =>
    intro i fuel S st h1 h2 hst hrow hS hinj hcl hiw
    obtain ⟨fuel, rfl⟩ : ∃ f, fuel = f + 1 := ⟨fuel - 1, by omega⟩
    have : i = n := by omega
    subst this
    have es : st 0 = ms 0 := hst 0 (by omega)
    rw [f_X5_check_L37, f_X6_check_L34, es, e0, e1, if_pos (nI_le (Nat.le_refl i) (by omega)), if_pos (nI_le (Nat.le_refl i) (by omega))]
    by_cases hwn : w ≤ i
    · rw [if_pos (nI_le hwn (by omega)), if_pos (nI_le hwn (by omega))]
      have hP : PR (fun j => tn (ms 0 (104 + j))) i := ⟨fun j hj => (hrow j hj).2, fun j k hj hk e => hinj j k hj hk e⟩
      rw [cost_c hG hO hN hP (fun j hj => (hG.2.2.2.2.2 j (by omega)).trans (nI_tn _).symm), bd1_s]
      have hm : f_X6_holesIn N st 7 4095 = some (nI (hsum (st 0) i (fun j => tn (ms 0 (104 + j))) 4095 i)) := holesIn_m (w := w0) (mask := 4095) (by rw [es]; exact hO) hN (show i ≤ mlen 7 from hn) (fun j hj => ⟨(hrow j hj).2, (hrow j hj).1⟩)
      rw [hm, bd1_s, es]
      exact ⟨_, _, _, rfl, rfl, keep st hst⟩
    · rw [if_neg (nI_ge (by omega) (by omega)), if_neg (nI_ge (by omega) (by omega))]
      exact ⟨_, _, _, rfl, rfl, keep st hst⟩
  | succ d ih =>
    intro i fuel S st h1 h2 hst hrow hS hinj hcl hiw
    obtain ⟨fuel, rfl⟩ : ∃ f, fuel = f + 1 := ⟨fuel - 1, by omega⟩
    have hi : i < n := by omega
    have es : st 0 = ms 0 := hst 0 (by omega)
    rw [f_X5_check_L37, f_X6_check_L34, es, e0, e1, if_neg (nI_ge hi (by omega)), if_neg (nI_ge hi (by omega))]
    unfold f_X2_fitsBehind
    by_cases hwi : w ≤ i
    · rw [if_pos (nI_le hwi (by omega)), if_pos (nI_le hwi (by omega)), bd1_s, bnd_s, isGrave_m1]
      simp only [b2i_f, if_true]
      exact ⟨_, _, _, rfl, rfl, keep st hst⟩
    · have hng : ¬ nI w ≤ nI i := nI_ge (by omega) (by omega)
      rw [if_neg hng, if_neg hng, ck_nI (by omega) (by omega), ck_104 (by omega) (by omega)]
      have ev : cs 11 i = ms 0 (104 + i) := hG.2.2.2.2.2 i (by omega)
      rw [ev]
      simp only [bnd_s]
      have er : f_X6_isGrave st (ms 0 (104 + i)) = f_X6_isGrave ms (ms 0 (104 + i)) := by
        unfold f_X6_isGrave
        rw [es]
      rw [er]
      have cki : ∀ {β : Type} (K : Nat → Option β), ck 12 (nI i) K = K i := fun K => ck_nI (by omega) (by omega)
      rcases gr_cases hG.1 e0 hn (ms 0 (104 + i)) with ⟨q1, q2⟩ | ⟨q1, q2, g, hg, hv⟩
      · rw [q1, q2]; simp only [b2i_f, if_true]
        rw [bd1_s]
        simp only [b2i_f, if_true]
        exact ⟨_, _, _, rfl, rfl, keep st hst⟩
      · rw [q1, q2]; simp only [b2i_t, if_false]
        have htn : tn (ms 0 (104 + i)) = g := by rw [hv]; exact tn_nI (by omega)
        simp only [cki, ev, hv]
        rw [isIn_bt _ (by omega), b_tst _ (by omega), nI_bt (by omega)]
        simp only [b2i_1]
        cases hb : S.testBit g
        · simp only [b2i_f, if_true, Bool.false_eq_true, if_false]
          have e6 : cs 6 g = nI (cN (ms 0) g) := (hG.at 6 (by omega) (by omega)).trans (cN_eq _ _)
          have hbl : f_X6_below N st (nI g) = some (nI (cl (cN (ms 0)) n (cN (ms 0) g))) := by
            have := below_m (ms := st) (w := w0) (by rw [es]; exact hO) hN hg
            rw [es] at this
            exact this
          rw [ck_nI (by omega) (by omega), e6, hbl, bd1_s]
          by_cases hs : sub (cN (ms 0) g) S
          · have hs2 : sub (cl (cN (ms 0)) n (cN (ms 0) g)) S := cl_le _ _ _ _ hs hcl
            rw [if_pos ((andnot_0 (p2_31 hn (hel g hg))).mpr hs), if_pos ((andnot_0 (p2_31 hn (cl_lt (hel g hg) hel))).mpr hs2), bd1_s, sto_nI (by omega) (by omega)]
            simp only [b2i_t, if_false]
            rw [nI_bit (by omega), nI_or, nI_1]
            refine ih (i + 1) fuel (S ||| 2 ^ g) (sU st 7 i (nI g)) (by omega) (by omega) (fun c hc => by rw [sU_ne _ _ _ hc]; exact hst c hc) (fun j hj => ?_) ?_ (fun j k hj hk e => ?_) (fun x hx hxb => ?_) (by omega)
            · rw [sU_eq]
              by_cases q : j = i
              · subst q; rw [upd_eq, htn]; exact ⟨rfl, hg⟩
              · rw [upd_ne _ _ q]; exact hrow j (by omega)
            · rw [rs, ← hS]
              show S ||| 2 ^ g = S ||| 2 ^ tn (ms 0 (104 + i))
              rw [htn]
            · have hno : ∀ l, l < i → ¬ tn (ms 0 (104 + l)) = g := by
                intro l hl e
                have : S.testBit g = true := by rw [hS]; exact (rs_bit _ g i).mpr ⟨l, hl, e⟩
                rw [hb] at this; cases this
              by_cases qj : j = i
              · subst qj
                by_cases qk : k = j
                · exact qk.symm
                · exact absurd (e.symm.trans htn) (hno k (by omega))
              · by_cases qk : k = i
                · subst qk; exact absurd (e.trans htn) (hno j (by omega))
                · exact hinj j k (by omega) (by omega) e
            · rw [Nat.testBit_or, Bool.or_eq_true, Nat.testBit_two_pow, decide_eq_true_eq] at hxb
              rcases hxb with hxb | hxb
              · exact sub_tr (hcl x hx hxb) (sub_ol _ _)
              · subst hxb; exact sub_tr hs (sub_ol _ _)
          · have hs2 : ¬ sub (cl (cN (ms 0)) n (cN (ms 0) g)) S := fun q => hs (sub_tr (cl_ge _ _ _) q)
            rw [if_neg (fun q => hs ((andnot_0 (p2_31 hn (hel g hg))).mp q)), if_neg (fun q => hs2 ((andnot_0 (p2_31 hn (cl_lt (hel g hg) hel))).mp q)), bd1_s]
            simp only [b2i_f, if_true]
            exact ⟨_, _, _, rfl, rfl, keep st hst⟩
        · simp only [b2i_t, if_false, if_true]
          rw [bd1_s]
          simp only [b2i_f, if_true]
          exact ⟨_, _, _, rfl, rfl, keep st hst⟩
theorem s_check {SO : St → Prop} (hSO : SOk SO) {N : Nat} (hN : 100 ≤ N) : ∀ cs ms, Rel SO cs ms → StepI (Rel SO) (f_X5_check N cs) (f_X6_check N ms) := by
  intro cs ms hR
  obtain ⟨hG, ⟨n, w, hO⟩, -⟩ := id hR
  have hn := hO.1
  have e0 : ms 0 0 = nI n := hO.2.2.1
  have hw : w ≤ 12 := hO.2.1
  have e1 : cs 13 1 = nI w := hG.2.1.trans hO.2.2.2.1
  have em : ms 0 1 = nI w := hO.2.2.2.1
  have hR0 : Rel SO (sU cs 13 1 0) (sU ms 0 1 0) := by
    refine hR.ground hSO (n := n) (w := 0) (fun c hc => sU_ne _ _ _ (by omega)) (fun c hc => sU_ne _ _ _ (by omega)) ?_ ?_
    · rw [sU_eq]; exact gr_waits hG
    · rw [sU_eq]; exact go_waits (w' := 0) hO (by omega)
  have hO0 : GO n 0 (sU ms 0 1 0 0) := by rw [sU_eq]; exact go_waits (w' := 0) hO (by omega)
  have f0 : sU ms 0 1 0 0 0 = nI n := hO0.2.2.1
  have f1 : sU cs 13 1 0 13 0 = nI n := hR0.1.1.trans f0
  unfold f_X5_check f_X6_check
  simp only [bnd_s]
  rw [e1, em]
  by_cases hz : n = 0
  · subst hz
    rw [if_pos (show sU cs 13 1 0 13 0 = (0 : Int32) from f1), if_pos (show sU ms 0 1 0 0 0 = (0 : Int32) from f0)]
    exact fin_step hSO hR0 _
  · rw [if_neg (show ¬ sU cs 13 1 0 13 0 = (0 : Int32) from fun q => nI_ne0 (n := n) (by omega) (by omega) (f1.symm.trans q)), if_neg (show ¬ sU ms 0 1 0 0 0 = (0 : Int32) from fun q => nI_ne0 (n := n) (by omega) (by omega) (f0.symm.trans q))]
    exact check_loop hN hR0 hO0 hw n 0 N 0 (sU ms 0 1 0) (by omega) (by omega) (fun _ _ => rfl) (fun j hj => by omega) rfl (fun j k hj => by omega) (fun g hg h => by rw [Nat.zero_testBit] at h; cases h) (by omega)
