/-! the whole is kept, and comes back -/
theorem be10 (st : St) (x y : Nat) : f_X1_becomev10 st x y = some (fun c j => if (16 ≤ c ∧ c < 25) ∧ j = x then st (c - 16) y else st c j) := by
  unfold f_X1_becomev10
  simp only [bnd_s]
  congr 1
  funext c j
  by_cases h : 16 ≤ c ∧ c < 25
  · rcases (show c = 16 ∨ c = 17 ∨ c = 18 ∨ c = 19 ∨ c = 20 ∨ c = 21 ∨ c = 22 ∨ c = 23 ∨ c = 24 by omega) with rfl | rfl | rfl | rfl | rfl | rfl | rfl | rfl | rfl <;> by_cases hj : j = x <;> simp [sU, upd, hj]
  · rw [if_neg (fun q => h q.1)]
    rw [sU_ne _ _ _ (by omega), sU_ne _ _ _ (by omega), sU_ne _ _ _ (by omega), sU_ne _ _ _ (by omega), sU_ne _ _ _ (by omega), sU_ne _ _ _ (by omega), sU_ne _ _ _ (by omega), sU_ne _ _ _ (by omega), sU_ne _ _ _ (by omega)]
theorem be01 (st : St) (x y : Nat) : f_X1_becomev01 st x y = some (fun c j => if c < 9 ∧ j = x then st (c + 16) y else st c j) := by
  unfold f_X1_becomev01
  simp only [bnd_s]
  congr 1
  funext c j
  by_cases h : c < 9
  · rcases (show c = 0 ∨ c = 1 ∨ c = 2 ∨ c = 3 ∨ c = 4 ∨ c = 5 ∨ c = 6 ∨ c = 7 ∨ c = 8 by omega) with rfl | rfl | rfl | rfl | rfl | rfl | rfl | rfl | rfl <;> by_cases hj : j = x <;> simp [sU, upd, hj]
  · rw [if_neg (fun q => h q.1)]
    rw [sU_ne _ _ _ (by omega), sU_ne _ _ _ (by omega), sU_ne _ _ _ (by omega), sU_ne _ _ _ (by omega), sU_ne _ _ _ (by omega), sU_ne _ _ _ (by omega), sU_ne _ _ _ (by omega), sU_ne _ _ _ (by omega), sU_ne _ _ _ (by omega)]
def kG (st : St) (i : Nat) : St := fun c j => if (16 ≤ c ∧ c < 25) ∧ j < i then st (c - 16) j else st c j
def bG (st : St) (i : Nat) : St := fun c j => if c < 9 ∧ j < i then st (c + 16) j else st c j
theorem kG_0 (st : St) : kG st 0 = st := by
  funext c j; unfold kG; rw [if_neg (by omega)]
theorem bG_0 (st : St) : bG st 0 = st := by
  funext c j; unfold bG; rw [if_neg (by omega)]
theorem loop10 {st : St} {N : Nat} (K : Int32 → St → Option St) (hN : 100 ≤ N) : f_X2_becomev10_L2 N K N 0 st = K (nI 10) (kG st 10) := by
  have h := loopF (fun fuel s i => f_X2_becomev10_L2 N K fuel i s) (fun s => K (nI 10) s) 10 (fun i => kG st i) (fun i fuel hi => ?_) (fun fuel => ?_) 10 0 N (by omega) (by omega)
  · simpa [kG_0, nI_0] using h
  · show f_X2_becomev10_L2 N K (fuel + 1) (nI i) _ = _
    rw [f_X2_becomev10_L2, if_neg (show ¬ ((10 : Int32) ≤ nI i) from nI_ge (b := 10) hi (by omega)), ck_nI hi (by omega), ck_nI hi (by omega), be10, bd1_s, nI_1]
    congr 1
    funext c j
    unfold kG
    by_cases h : 16 ≤ c ∧ c < 25
    · by_cases hj : j = i
      · subst hj
        rw [if_pos ⟨h, rfl⟩, if_neg (by omega), if_pos ⟨h, by omega⟩]
      · rw [if_neg (fun q => hj q.2)]
        by_cases hj2 : j < i
        · rw [if_pos ⟨h, hj2⟩, if_pos ⟨h, by omega⟩]
        · rw [if_neg (fun q => hj2 q.2), if_neg (fun q => by omega)]
    · rw [if_neg (fun q => h q.1), if_neg (fun q => h q.1), if_neg (fun q => h q.1)]
  · show f_X2_becomev10_L2 N K (fuel + 1) (nI 10) _ = _
    rw [f_X2_becomev10_L2, if_pos (by decide)]
theorem loop01 {st : St} {N : Nat} (K : Int32 → St → Option St) (hN : 100 ≤ N) : f_X2_becomev01_L2 N K N 0 st = K (nI 10) (bG st 10) := by
  have h := loopF (fun fuel s i => f_X2_becomev01_L2 N K fuel i s) (fun s => K (nI 10) s) 10 (fun i => bG st i) (fun i fuel hi => ?_) (fun fuel => ?_) 10 0 N (by omega) (by omega)
  · simpa [bG_0, nI_0] using h
  · show f_X2_becomev01_L2 N K (fuel + 1) (nI i) _ = _
    rw [f_X2_becomev01_L2, if_neg (show ¬ ((10 : Int32) ≤ nI i) from nI_ge (b := 10) hi (by omega)), ck_nI hi (by omega), ck_nI hi (by omega), be01, bd1_s, nI_1]
    congr 1
    funext c j
    unfold bG
    by_cases h : c < 9
    · by_cases hj : j = i
      · subst hj
        rw [if_pos ⟨h, rfl⟩, if_neg (by omega), if_pos ⟨h, by omega⟩]
      · rw [if_neg (fun q => hj q.2)]
        by_cases hj2 : j < i
        · rw [if_pos ⟨h, hj2⟩, if_pos ⟨h, by omega⟩]
        · rw [if_neg (fun q => hj2 q.2), if_neg (fun q => by omega)]
    · rw [if_neg (fun q => h q.1), if_neg (fun q => h q.1), if_neg (fun q => h q.1)]
  · show f_X2_becomev01_L2 N K (fuel + 1) (nI 10) _ = _
    rw [f_X2_becomev01_L2, if_pos (by decide)]
theorem acp_0 {β : Type} {st : St} {n c0 c1 : Nat} {x : Int32} {K : St → Option β} (hx : x = nI n) (hn : n < 2 ^ 30) : acp n n st c0 c1 0 0 x K = K (sF st c1 (va_cpy (st c0) (st c1) 0 0 n)) := by
  subst hx
  unfold acp
  rw [nI_clamp (by omega), sb_cl0, if_neg]
  rintro (q | q | q | q | q)
  · exact absurd q (by decide)
  · exact absurd q (by decide)
  · exact nI_pos (by omega) q
  · omega
  · omega
theorem cpy_at (f g : Nat → Int32) {n j : Nat} (h : j < n) : va_cpy f g 0 0 n j = f j := sb_cpy0 h
theorem keep_c {cs : St} {N : Nat} (hN : 100 ≤ N) : ∃ cs', f_X2_becomev10 N cs = some cs' ∧ (∀ c, ¬ (16 ≤ c ∧ c < 30) → cs' c = cs c) ∧ (∀ a, GR cs 0 a → GR cs' 16 a) := by
  unfold f_X2_becomev10
  rw [loop10 _ hN, acp_0 (n := 6) (x := 6) rfl (by omega), acp_0 (n := 6) (x := 6) rfl (by omega), acp_0 (n := 12) (x := 12) rfl (by omega)]
  simp only [bnd_s]
  refine ⟨_, rfl, fun c hc => ?_, fun a hG => ?_⟩
  · rw [sU_ne _ _ _ (by omega), sU_ne _ _ _ (by omega), sF_ne _ _ (by omega), sF_ne _ _ (by omega), sF_ne _ _ (by omega)]
    funext j
    unfold kG
    rw [if_neg (fun q => by omega)]
  · obtain ⟨h1, h2, h3, h4, h5, h6⟩ := hG
    generalize hq : kG cs 10 = q0
    have k9 : ∀ c, ¬ (16 ≤ c ∧ c < 25) → q0 c = cs c := fun c hc => by
      rw [← hq]; funext j; unfold kG; rw [if_neg (fun q => hc q.1)]
    have kf : ∀ f k, f < 9 → k < 10 → q0 (16 + f) k = cs f k := fun f k hf hk => by
      rw [← hq]; unfold kG; rw [if_pos ⟨⟨by omega, by omega⟩, hk⟩, Nat.add_sub_cancel_left]
    refine ⟨?_, ?_, fun f k hf hk => ?_, fun k hk => ?_, fun k hk => ?_, fun k hk => ?_⟩
    · show sU _ 29 1 _ 29 0 = _
      rw [sU_eq, upd_ne _ _ (by omega), sU_eq, upd_eq, sF_ne _ _ (by omega), sF_ne _ _ (by omega), sF_ne _ _ (by omega), k9 13 (by omega)]
      exact h1
    · show sU _ 29 1 _ 29 1 = _
      rw [sU_eq, upd_eq, sU_ne _ _ _ (by omega), sF_ne _ _ (by omega), sF_ne _ _ (by omega), sF_ne _ _ (by omega), k9 13 (by omega)]
      exact h2
    · rw [sU_ne _ _ _ (by omega), sU_ne _ _ _ (by omega), sF_ne _ _ (by omega), sF_ne _ _ (by omega), sF_ne _ _ (by omega), kf f k hf hk]
      have := h3 f k hf hk
      rwa [Nat.zero_add] at this
    · show sU (sU (sF (sF (sF q0 25 _) 26 _) 27 _) 29 0 _) 29 1 _ 25 k = _
      rw [sU_ne _ _ _ (by omega), sU_ne _ _ _ (by omega), sF_ne _ _ (by omega), sF_ne _ _ (by omega), sF_eq, cpy_at _ _ hk, k9 9 (by omega)]
      exact h4 k hk
    · show sU (sU (sF (sF (sF q0 25 _) 26 _) 27 _) 29 0 _) 29 1 _ 26 k = _
      rw [sU_ne _ _ _ (by omega), sU_ne _ _ _ (by omega), sF_ne _ _ (by omega), sF_eq, cpy_at _ _ hk, sF_ne _ _ (by omega), k9 10 (by omega)]
      exact h5 k hk
    · show sU (sU (sF (sF (sF q0 25 _) 26 _) 27 _) 29 0 _) 29 1 _ 27 k = _
      rw [sU_ne _ _ _ (by omega), sU_ne _ _ _ (by omega), sF_eq, cpy_at _ _ hk, sF_ne _ _ (by omega), sF_ne _ _ (by omega), k9 11 (by omega)]
      exact h6 k hk
theorem back_c {cs : St} {N : Nat} (hN : 100 ≤ N) : ∃ cs', f_X2_becomev01 N cs = some cs' ∧ (∀ c, ¬ c < 14 → cs' c = cs c) ∧ (∀ a, GR cs 16 a → GR cs' 0 a) := by
  unfold f_X2_becomev01
  rw [loop01 _ hN, acp_0 (n := 6) (x := 6) rfl (by omega), acp_0 (n := 6) (x := 6) rfl (by omega), acp_0 (n := 12) (x := 12) rfl (by omega)]
  simp only [bnd_s]
  refine ⟨_, rfl, fun c hc => ?_, fun a hG => ?_⟩
  · rw [sU_ne _ _ _ (by omega), sU_ne _ _ _ (by omega), sF_ne _ _ (by omega), sF_ne _ _ (by omega), sF_ne _ _ (by omega)]
    funext j
    unfold bG
    rw [if_neg (fun q => by omega)]
  · obtain ⟨h1, h2, h3, h4, h5, h6⟩ := hG
    generalize hq : bG cs 10 = q0
    have k9 : ∀ c, ¬ c < 9 → q0 c = cs c := fun c hc => by
      rw [← hq]; funext j; unfold bG; rw [if_neg (fun q => hc q.1)]
    have kf : ∀ f k, f < 9 → k < 10 → q0 f k = cs (16 + f) k := fun f k hf hk => by
      rw [← hq]; unfold bG; rw [if_pos ⟨hf, hk⟩, Nat.add_comm]
    refine ⟨?_, ?_, fun f k hf hk => ?_, fun k hk => ?_, fun k hk => ?_, fun k hk => ?_⟩
    · show sU _ 13 1 _ 13 0 = _
      rw [sU_eq, upd_ne _ _ (by omega), sU_eq, upd_eq, sF_ne _ _ (by omega), sF_ne _ _ (by omega), sF_ne _ _ (by omega), k9 29 (by omega)]
      exact h1
    · show sU _ 13 1 _ 13 1 = _
      rw [sU_eq, upd_eq, sU_ne _ _ _ (by omega), sF_ne _ _ (by omega), sF_ne _ _ (by omega), sF_ne _ _ (by omega), k9 29 (by omega)]
      exact h2
    · rw [sU_ne _ _ _ (by omega), sU_ne _ _ _ (by omega), sF_ne _ _ (by omega), sF_ne _ _ (by omega), sF_ne _ _ (by omega), Nat.zero_add, kf f k hf hk]
      exact h3 f k hf hk
    · show sU (sU (sF (sF (sF q0 9 _) 10 _) 11 _) 13 0 _) 13 1 _ 9 k = _
      rw [sU_ne _ _ _ (by omega), sU_ne _ _ _ (by omega), sF_ne _ _ (by omega), sF_ne _ _ (by omega), sF_eq, cpy_at _ _ hk, k9 25 (by omega)]
      exact h4 k hk
    · show sU (sU (sF (sF (sF q0 9 _) 10 _) 11 _) 13 0 _) 13 1 _ 10 k = _
      rw [sU_ne _ _ _ (by omega), sU_ne _ _ _ (by omega), sF_ne _ _ (by omega), sF_eq, cpy_at _ _ hk, sF_ne _ _ (by omega), k9 26 (by omega)]
      exact h5 k hk
    · show sU (sU (sF (sF (sF q0 9 _) 10 _) 11 _) 13 0 _) 13 1 _ 11 k = _
      rw [sU_ne _ _ _ (by omega), sU_ne _ _ _ (by omega), sF_eq, cpy_at _ _ hk, sF_ne _ _ (by omega), sF_ne _ _ (by omega), k9 27 (by omega)]
      exact h6 k hk
def cpF (f g : Nat → Int32) (i : Nat) : Nat → Int32 := fun j => if j < i then f j else g j
theorem cpF_0 (f g : Nat → Int32) : cpF f g 0 = g := by
  funext j; unfold cpF; rw [if_neg (by omega)]
theorem cpF_s (f g : Nat → Int32) (i : Nat) : upd (cpF f g i) i (f i) = cpF f g (i + 1) := by
  funext j
  unfold upd cpF
  by_cases h : j = i
  · subst h; rw [if_pos rfl, if_pos (by omega)]
  · rw [if_neg h]
    by_cases h2 : j < i
    · rw [if_pos h2, if_pos (by omega)]
    · rw [if_neg h2, if_neg (by omega)]
theorem keep_m {ms : St} {N : Nat} (K : Int32 → St → Option (Int32 × St)) (hN : 200 ≤ N) : f_X6_keep_L2 N K N 0 ms = K (nI 116) (sF ms 1 (cpF (ms 0) (ms 1) 116)) := by
  have h := loopF (fun fuel s i => f_X6_keep_L2 N K fuel i s) (fun s => K (nI 116) s) 116 (fun i => sF ms 1 (cpF (ms 0) (ms 1) i)) (fun i fuel hi => ?_) (fun fuel => ?_) 116 0 N (by omega) (by omega)
  · simpa [cpF_0, sF_self, nI_0] using h
  · show f_X6_keep_L2 N K (fuel + 1) (nI i) _ = _
    rw [f_X6_keep_L2, if_neg (show ¬ ((116 : Int32) ≤ nI i) from nI_ge (b := 116) hi (by omega)), ck_nI hi (by omega), sto_nI hi (by omega), sU_sF, sF_ne _ _ (by omega), cpF_s, nI_1]
  · show f_X6_keep_L2 N K (fuel + 1) (nI 116) _ = _
    rw [f_X6_keep_L2, if_pos (by decide)]
theorem back_m {ms : St} {N : Nat} (K : Int32 → St → Option (Int32 × St)) (hN : 200 ≤ N) : f_X6_back_L16 N K N 0 ms = K (nI 116) (sF ms 0 (cpF (ms 1) (ms 0) 116)) := by
  have h := loopF (fun fuel s i => f_X6_back_L16 N K fuel i s) (fun s => K (nI 116) s) 116 (fun i => sF ms 0 (cpF (ms 1) (ms 0) i)) (fun i fuel hi => ?_) (fun fuel => ?_) 116 0 N (by omega) (by omega)
  · simpa [cpF_0, sF_self, nI_0] using h
  · show f_X6_back_L16 N K (fuel + 1) (nI i) _ = _
    rw [f_X6_back_L16, if_neg (show ¬ ((116 : Int32) ≤ nI i) from nI_ge (b := 116) hi (by omega)), ck_nI hi (by omega), sto_nI hi (by omega), sU_sF, sF_ne _ _ (by omega), cpF_s, nI_1]
  · show f_X6_back_L16 N K (fuel + 1) (nI 116) _ = _
    rw [f_X6_back_L16, if_pos (by decide)]
theorem GR.ext {cs : St} {o : Nat} {a b : Nat → Int32} (h : GR cs o a) (e : ∀ j, j < 116 → b j = a j) : GR cs o b := by
  obtain ⟨h1, h2, h3, h4, h5, h6⟩ := h
  refine ⟨by rw [e 0 (by omega)]; exact h1, by rw [e 1 (by omega)]; exact h2, fun f k hf hk => by rw [e _ (by omega)]; exact h3 f k hf hk, fun k hk => by rw [e _ (by omega)]; exact h4 k hk, fun k hk => by rw [e _ (by omega)]; exact h5 k hk, fun k hk => by rw [e _ (by omega)]; exact h6 k hk⟩
theorem GO.ext {n w : Nat} {a b : Nat → Int32} (h : GO n w a) (e : ∀ j, j < 116 → b j = a j) : GO n w b := by
  obtain ⟨h1, h2, h3, h4, h5, rank, hr⟩ := h
  refine ⟨h1, h2, by rw [e 0 (by omega)]; exact h3, by rw [e 1 (by omega)]; exact h4, fun f k hf hk => by rw [e _ (by omega)]; exact h5 f k hf hk, rank, fun i j hi hj hb => ?_⟩
  rw [e _ (by omega)] at hb
  exact hr i j hi hj hb
theorem s_keep {SO : St → Prop} (hSO : SOk SO) {N : Nat} (hN : 200 ≤ N) : ∀ cs ms, Rel SO cs ms → StepI (Rel SO) (f_X5_keep N cs) (f_X6_keep N ms) := by
  intro cs ms hR
  obtain ⟨hG, ⟨n, w, hO⟩, ⟨hk0, hk1⟩, hK, hS, hs⟩ := hR
  unfold f_X5_keep f_X6_keep
  obtain ⟨cs', e, hc, hg⟩ := keep_c (cs := cs) (N := N) (by omega)
  rw [e, keep_m _ hN, bd1_s]
  simp only [bnd_s]
  have hc51 : ∀ c, ¬ (16 ≤ c ∧ c < 30) → ¬ c = 51 → sU cs' 51 0 1 c = cs c := fun c h1 h2 => by rw [sU_ne _ _ _ h2, hc c h1]
  have hm : ∀ c, ¬ c = 1 → ¬ c = 10 → sU (sF ms 1 (cpF (ms 0) (ms 1) 116)) 10 0 1 c = ms c := fun c h1 h2 => by rw [sU_ne _ _ _ h2, sF_ne _ _ h1]
  have hm1 : sU (sF ms 1 (cpF (ms 0) (ms 1) 116)) 10 0 1 1 = cpF (ms 0) (ms 1) 116 := by rw [sU_ne _ _ _ (by omega), sF_eq]
  have hext : ∀ j, j < 116 → cpF (ms 0) (ms 1) 116 j = ms 0 j := fun j hj => by unfold cpF; rw [if_pos hj]
  refine ⟨ms 0 0, sU cs' 51 0 1, sU (sF ms 1 (cpF (ms 0) (ms 1) 116)) 10 0 1, ?_, ?_, ?_⟩
  · rw [hc51 13 (by omega) (by omega)]
    have q : cs 13 0 = ms 0 0 := hG.1
    rw [q]
  · rw [hm 0 (by omega) (by omega)]
  · refine ⟨hG.congr (fun c _ _ => hc51 (0 + c) (by omega) (by omega)) (hm 0 (by omega) (by omega)), ⟨n, w, by rw [hm 0 (by omega) (by omega)]; exact hO⟩, ⟨?_, ?_⟩, fun _ => ⟨?_, n, w, ?_⟩, hS.congr (fun c _ _ => hc51 c (by omega) (by omega)) (fun c _ _ => hm c (by omega) (by omega)), hSO _ _ (fun c _ _ => hc51 c (by omega) (by omega)) hs⟩
    · rw [sU_eq, upd_eq, sU_eq, upd_eq]
    · rw [sU_eq, upd_ne _ _ (by omega), sU_eq, upd_ne _ _ (by omega), hc 51 (by omega), sF_ne _ _ (by omega)]; exact hk1
    · rw [hm1]
      exact ((hg _ hG).congr (fun c _ _ => by rw [sU_ne _ _ _ (by omega)]) rfl).ext hext
    · rw [hm1]; exact hO.ext hext
theorem s_back {SO : St → Prop} (hSO : SOk SO) {N : Nat} (hN : 200 ≤ N) : ∀ cs ms, Rel SO cs ms → StepI (Rel SO) (f_X5_back N cs) (f_X6_back N ms) := by
  intro cs ms hR
  obtain ⟨hG, ⟨n, w, hO⟩, ⟨hk0, hk1⟩, hK, hS, hs⟩ := id hR
  unfold f_X5_back f_X6_back
  rw [hk0]
  by_cases h : ms 10 0 = 0
  · rw [if_pos h, if_pos h]; exact fin_step hSO hR _
  · rw [if_neg h, if_neg h]
    obtain ⟨g1, n', w', g2⟩ := hK h
    obtain ⟨cs', e, hc, hg⟩ := back_c (cs := cs) (N := N) (by omega)
    rw [e, back_m _ hN, bd1_s]
    have hext : ∀ j, j < 116 → sF ms 0 (cpF (ms 1) (ms 0) 116) 0 j = ms 1 j := fun j hj => by rw [sF_eq]; unfold cpF; rw [if_pos hj]
    have g3 := hg _ g1
    refine ⟨ms 1 0, cs', sF ms 0 (cpF (ms 1) (ms 0) 116), ?_, ?_, ?_⟩
    · have q : cs' 13 0 = ms 1 0 := g3.1
      rw [q]
    · rw [hext 0 (by omega)]
    · exact hR.ground hSO (n := n') (w := w') (fun c hcc => hc c (by omega)) (fun c hcc => sF_ne _ _ (by omega)) (g3.ext hext) (g2.ext hext)
