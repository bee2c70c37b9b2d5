/-! both searches -/
theorem tn_inj {x y : Int32} (h : tn x = tn y) : x = y := by rw [← nI_tn x, ← nI_tn y, h]
theorem may_eq {C C' : Nat → Nat} {S g : Nat} (h : C g = C' g) : may C S g = may C' S g := by unfold may; rw [h]
theorem ct_tk {a : Nat → Int32} {G Lk : Nat → Nat} {n w mask S g : Nat} {T : Nat → Nat} (hO : GO n w a) (h : ∀ i, i < n → G i = tkG a mask i ∧ Lk i = tkL a mask i) (hg : g < n) : ct G Lk n T S g = ct (tkG a mask) (tkL a mask) n T S g := by
  unfold ct
  rw [hq_hc hO h hg, hq_hc hO (fun i hi => ⟨rfl, rfl⟩) hg]
theorem wS_tk {a : Nat → Int32} {G Lk Cu : Nat → Nat} {n w mask S : Nat} {T : Nat → Nat} {V : Nat → Int32} (hO : GO n w a) (h : ∀ i, i < n → G i = tkG a mask i ∧ Lk i = tkL a mask i) (hc : ∀ i, i < n → Cu i = cN a i) : ∀ i, i ≤ n → wS G Lk Cu n T V S i = wS (tkG a mask) (tkL a mask) (cN a) n T V S i := by
  intro i
  induction i with
  | zero => intro _; rfl
  | succ i ih =>
    intro hi
    rw [wS, wS, ih (by omega), may_eq (C := Cu) (C' := cN a) (hc i (by omega)), ct_tk hO h (by omega)]
theorem FR_tk {a : Nat → Int32} {G Lk Cu : Nat → Nat} {n w mask S g : Nat} {T : Nat → Nat} (hO : GO n w a) (h : ∀ i, i < n → G i = tkG a mask i ∧ Lk i = tkL a mask i) (hc : ∀ i, i < n → Cu i = cN a i) (hF : FR G Lk Cu n T S g) : FR (tkG a mask) (tkL a mask) (cN a) n T S g := by
  obtain ⟨f1, f2, f3, f4⟩ := hF
  refine ⟨f1, by rw [← may_eq (C := Cu) (hc g f1)]; exact f2, by rw [← ct_tk hO h f1]; exact f3, fun x hx hm he => f4 x hx (by rw [may_eq (C := Cu) (C' := cN a) (hc x (by omega))]; exact hm) (by rw [ct_tk hO h (by omega)]; exact he)⟩
theorem FR_u {G Lk Cu : Nat → Nat} {n S g g' : Nat} {T : Nat → Nat} (h : FR G Lk Cu n T S g) (h' : FR G Lk Cu n T S g') : g = g' := by
  rcases Nat.lt_trichotomy g g' with q | q | q
  · exact absurd h.2.2.1 (h'.2.2.2 g q h.2.1)
  · exact q
  · exact absurd h'.2.2.1 (h.2.2.2 g' q h'.2.1)
theorem rows_u {G Lk Cu : Nat → Nat} {n : Nat} {T : Nat → Nat} {r r' : Nat → Nat} (h : ∀ j, j < n → FR G Lk Cu n T (rs r j) (r j)) (h' : ∀ j, j < n → FR G Lk Cu n T (rs r' j) (r' j)) : ∀ j, j < n → r j = r' j := by
  intro j
  induction j using Nat.strongRecOn with
  | ind j ih =>
    intro hj
    have e : rs r j = rs r' j := rs_congr j (fun l hl => ih l hl (by omega))
    have h1 := h j hj
    rw [e] at h1
    exact FR_u h1 (h' j hj)
theorem pcN_0 (m : Nat) : pcN m 0 = 0 := by
  induction m with
  | zero => rfl
  | succ m ih => unfold pcN; rw [ih, Nat.zero_testBit]; rfl
theorem tm_8 {n : Nat} (h : n ≤ 8) : tm n ≤ 122222221 := by
  have : n = 0 ∨ n = 1 ∨ n = 2 ∨ n = 3 ∨ n = 4 ∨ n = 5 ∨ n = 6 ∨ n = 7 ∨ n = 8 := by omega
  rcases this with rfl | rfl | rfl | rfl | rfl | rfl | rfl | rfl | rfl <;> decide
theorem search_m {st ms : St} {N n w mask : Nat} (hO : GO n w (ms 0)) (h1 : 1 ≤ n) (h8 : n ≤ 8) (hN : 200000000 ≤ N) (hK : SOK st n) (hd : ∀ i, i < n → dG st i = tkG (ms 0) mask i ∧ dL st i = tkL (ms 0) mask i ∧ dC st i = cN (ms 0) i) : ∃ ms', f_X6_search N ms (nI mask) = some ms' ∧ (∀ c, c < 6 → ms' c = ms c) ∧ ms' 10 0 = ms 10 0 ∧ ms' 10 1 = ms 10 1 ∧ ms' 10 2 = st 44 0 ∧ ms' 10 3 = st 45 0 ∧ (∀ j, j < n → ms' 6 j = st 46 j) ∧ (∀ j, j < n → tn (st 46 j) < n) ∧ tn (st 44 0) ≤ 96 := by
  have hn := hO.1
  have e0 : ms 0 0 = nI n := hO.2.2.1
  obtain ⟨hI, hG, hT, hRow⟩ := hK
  have hGL : ∀ i, i < n → dG st i = tkG (ms 0) mask i ∧ dL st i = tkL (ms 0) mask i := fun i hi => ⟨(hd i hi).1, (hd i hi).2.1⟩
  have hC : ∀ i, i < n → dC st i = cN (ms 0) i := fun i hi => (hd i hi).2.2
  have hTB : TB (ms 0) n mask (dT st) (st 45) := by
    refine ⟨((hT (al n) (by omega) (al_lt n)).2.1 rfl).1, ((hT (al n) (by omega) (al_lt n)).2.1 rfl).2, fun S hS => ?_⟩
    have := (hT S (by omega) (Nat.lt_trans hS (al_lt n))).2.2 hS
    rw [wS_tk hO hGL hC n (Nat.le_refl n)] at this
    exact this
  have hr : ∃ rank : Nat → Nat, ∀ i j, i < n → j < n → (dC st i).testBit j = true → rank j < rank i := by
    obtain ⟨-, -, -, -, -, rank, hr⟩ := id hO
    exact ⟨rank, fun i j hi hj hb => hr i j hi hj (by rw [hC i hi] at hb; exact hb)⟩
  have hsm := tab_small hT (fun g hg => (hI.2.2.2.2 g hg).2.2) hr n 0 (by rw [pcN_0]; omega) (Nat.two_pow_pos n) (fun g hg hb => by rw [Nat.zero_testBit] at hb; cases hb)
  unfold f_X6_search
  simp only [bnd_s]
  rw [e0]
  generalize hs : sU (sU (sU (sU ms 10 2 1000) 10 3 0) 8 0 0) 9 0 (-1) = s
  have q0 : ∀ c, c < 8 → s c = ms c := fun c hc => by rw [← hs, sU_ne _ _ _ (by omega), sU_ne _ _ _ (by omega), sU_ne _ _ _ (by omega), sU_ne _ _ _ (by omega)]
  have q10 : s 10 = upd (upd (ms 10) 2 1000) 3 0 := by rw [← hs, sU_ne _ _ _ (by omega), sU_ne _ _ _ (by omega), sU_eq, sU_eq]
  obtain ⟨u, s', u1, u2, u3, u4⟩ := node_m (K := fun a_51 a_52 st_53 => some st_53) hO h8 (show 100 ≤ N by omega) hTB n (by omega) 0 0 0 1000 s (by omega) (q0 0 (by omega)) (by rw [← hs, sU_ne _ _ _ (by omega), sU_eq, upd_eq]; rfl) (by omega) (by rw [q10, upd_ne _ _ (by omega), upd_eq]; rfl) (by omega) (by rw [← hs, sU_eq, upd_eq]) (Nat.two_pow_pos n) (pcN_0 n) rfl
  have htm := tm_8 h8
  obtain ⟨f, hf⟩ : ∃ f, N = u + (f + 1) := ⟨N - u - 1, by omega⟩
  have hrun : f_X6_search_L38 N (nI mask) (nI n) (fun a_51 a_52 st_53 => some st_53) N 0 0 s = some s' := by
    have e := u2 (f + 1)
    rw [← hf] at e
    refine Eq.trans e ?_
    rw [f_X6_search_L38, if_pos (show xI 0 < (0 : Int32) by decide)]
  have hT0 : dT st 0 ≤ 96 := by show tn (st 44 0) ≤ 96; omega
  obtain ⟨a1, a2, a3⟩ := u3.1 (show 0 + dT st 0 < 1000 by omega)
  have hrow : ∀ j, j < n → tn (s' 6 j) = tn (st 46 j) := rows_u (fun j hj => a3.2 j (by omega) hj) (fun j hj => FR_tk hO hGL hC (hRow j hj))
  refine ⟨s', hrun, fun c hc => (u4.1 c hc).trans (q0 c (by omega)), by rw [u4.2.1, q10, upd_ne _ _ (by omega), upd_ne _ _ (by omega)], by rw [u4.2.2.1, q10, upd_ne _ _ (by omega), upd_ne _ _ (by omega)], ?_, a2, fun j hj => tn_inj (hrow j hj), fun j hj => (hRow j hj).1, by omega⟩
  rw [a1, Nat.zero_add]
  exact nI_tn _
