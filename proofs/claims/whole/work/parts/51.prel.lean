/-! the tie between the class's state and the reference's -/
theorem sU_eq (st : St) (c j : Nat) (v : Int32) : sU st c j v c = upd (st c) j v := if_pos rfl
theorem sU_ne (st : St) {c c' : Nat} (j : Nat) (v : Int32) (h : ¬ c' = c) : sU st c j v c' = st c' := if_neg h
theorem sF_eq (st : St) (c : Nat) (f : Nat → Int32) : sF st c f c = f := if_pos rfl
theorem sF_ne (st : St) {c c' : Nat} (f : Nat → Int32) (h : ¬ c' = c) : sF st c f c' = st c' := if_neg h
theorem upd_eq (f : Nat → Int32) (k : Nat) (v : Int32) : upd f k v k = v := if_pos rfl
theorem upd_ne (f : Nat → Int32) {k j : Nat} (v : Int32) (h : ¬ j = k) : upd f k v j = f j := if_neg h
theorem ck_nI {β : Type} {n j : Nat} {K : Nat → Option β} (h : j < n) (hj : j < 2 ^ 31) : ck n (nI j) K = K j := by
  unfold ck
  rw [if_neg (by rw [nI_clamp hj]; rintro (q | q); exact nI_pos hj q; omega), nI_clamp hj]
theorem sto_nI {β : Type} {n j c : Nat} {st : St} {x : Int32} {K : St → Option β} (h : j < n) (hj : j < 2 ^ 31) : sto n st c (nI j) x K = K (sU st c j x) := by
  unfold sto
  rw [ck_nI h hj]
theorem bd1_s {α β : Type} (a : α) (K : α → Option β) : bd1 (some a) K = K a := rfl
theorem bd2_s {α α' β : Type} (a : α) (b : α') (K : α → α' → Option β) : bd2 (some (a, b)) K = K a b := rfl
theorem bnd_s {α β : Type} (a : α) (K : α → β) : bnd a K = K a := rfl
def vld (n f : Nat) (v : Int32) : Prop := (f = 0 → ∃ t, t < 4 ∧ v = nI t) ∧ (f = 1 → ∃ t, t < 100 ∧ v = nI t) ∧ (f = 2 → ∃ t, t < 100 ∧ v = nI t) ∧ (f = 3 → ∃ t, t < 4096 ∧ v = nI t) ∧ (f = 4 → -5000 ≤ v.toInt ∧ v.toInt ≤ 5000) ∧ (f = 5 → -5000 ≤ v.toInt ∧ v.toInt ≤ 5000) ∧ (f = 6 → ∃ t, t < 2 ^ n ∧ v = nI t)
def GO (n w : Nat) (a : Nat → Int32) : Prop := n ≤ 10 ∧ w ≤ 12 ∧ a 0 = nI n ∧ a 1 = nI w ∧ (∀ f k, f < 9 → k < n → vld n f (a (2 + 10 * f + k))) ∧ ∃ rank : Nat → Nat, ∀ i j, i < n → j < n → bt (a (62 + i)) j = true → rank j < rank i
def GR (cs : St) (o : Nat) (a : Nat → Int32) : Prop := cs (o + 13) 0 = a 0 ∧ cs (o + 13) 1 = a 1 ∧ (∀ f k, f < 9 → k < 10 → cs (o + f) k = a (2 + 10 * f + k)) ∧ (∀ k, k < 6 → cs (o + 9) k = a (92 + k)) ∧ (∀ k, k < 6 → cs (o + 10) k = a (98 + k)) ∧ (∀ k, k < 12 → cs (o + 11) k = a (104 + k))
def ShR (cs ms : St) : Prop := ∀ q, q < 4 → cs 36 q = ms 2 q ∧ cs 37 q = ms 3 q ∧ (∀ i, i < 12 → cs (32 + q) i = ms 4 (12 * q + i)) ∧ (ms 2 q = 0 ∨ ms 2 q = 8 ∨ ms 2 q = 16 ∨ ms 2 q = 32) ∧ ∃ L, L ≤ 12 ∧ ms 3 q = nI L
def Rel (SO : St → Prop) (cs ms : St) : Prop := GR cs 0 (ms 0) ∧ (∃ n w, GO n w (ms 0)) ∧ (cs 51 0 = ms 10 0 ∧ cs 51 1 = ms 10 1) ∧ (¬ ms 10 0 = 0 → GR cs 16 (ms 1) ∧ ∃ n w, GO n w (ms 1)) ∧ ShR cs ms ∧ SO cs
/-- the search's own part is kept as long as its rows are -/
def SOk (SO : St → Prop) : Prop := ∀ cs cs' : St, (∀ c, 40 ≤ c → c < 48 → cs' c = cs c) → SO cs → SO cs'
theorem GR.congr {cs cs' : St} {o : Nat} {a a' : Nat → Int32} (h : GR cs o a) (hc : ∀ c, c < 14 → ¬ c = 12 → cs' (o + c) = cs (o + c)) (ha : a' = a) : GR cs' o a' := by
  subst ha
  obtain ⟨h1, h2, h3, h4, h5, h6⟩ := h
  refine ⟨by rw [hc 13 (by omega) (by omega)]; exact h1, by rw [hc 13 (by omega) (by omega)]; exact h2, fun f k hf hk => by rw [hc f (by omega) (by omega)]; exact h3 f k hf hk, fun k hk => by rw [hc 9 (by omega) (by omega)]; exact h4 k hk, fun k hk => by rw [hc 10 (by omega) (by omega)]; exact h5 k hk, fun k hk => by rw [hc 11 (by omega) (by omega)]; exact h6 k hk⟩
theorem ShR.congr {cs cs' ms ms' : St} (h : ShR cs ms) (hc : ∀ c, 32 ≤ c → c < 38 → cs' c = cs c) (hm : ∀ c, 2 ≤ c → c < 5 → ms' c = ms c) : ShR cs' ms' := by
  intro q hq
  obtain ⟨h1, h2, h3, h4, h5⟩ := h q hq
  rw [hc 36 (by omega) (by omega), hc 37 (by omega) (by omega), hm 2 (by omega) (by omega), hm 3 (by omega) (by omega)]
  refine ⟨h1, h2, fun i hi => ?_, h4, h5⟩
  rw [hc (32 + q) (by omega) (by omega), hm 4 (by omega) (by omega)]
  exact h3 i hi
/-- only the ground and its row have changed -/
theorem Rel.ground {SO : St → Prop} {cs cs' ms ms' : St} (hSO : SOk SO) (hR : Rel SO cs ms) (hc : ∀ c, 16 ≤ c → cs' c = cs c) (hm : ∀ c, 1 ≤ c → ms' c = ms c) (hG : GR cs' 0 (ms' 0)) {n w : Nat} (hO : GO n w (ms' 0)) : Rel SO cs' ms' := by
  obtain ⟨-, -, ⟨h1, h2⟩, h3, h4, h5⟩ := hR
  refine ⟨hG, ⟨n, w, hO⟩, ⟨by rw [hc 51 (by omega), hm 10 (by omega)]; exact h1, by rw [hc 51 (by omega), hm 10 (by omega)]; exact h2⟩, fun hk => ?_, h4.congr (fun c _ _ => hc c (by omega)) (fun c _ _ => hm c (by omega)), hSO _ _ (fun c _ _ => hc c (by omega)) h5⟩
  rw [hm 10 (by omega)] at hk
  obtain ⟨g1, n', w', g2⟩ := h3 hk
  exact ⟨g1.congr (fun c _ _ => hc (16 + c) (by omega)) (hm 1 (by omega)), n', w', by rw [hm 1 (by omega)]; exact g2⟩
/-- only what neither side shows has changed -/
theorem Rel.scratch {SO : St → Prop} {cs cs' ms ms' : St} (hR : Rel SO cs ms) (hc : ∀ c, ¬ c = 12 → ¬ (40 ≤ c ∧ c ≤ 50) → cs' c = cs c) (hs : SO cs') (hm : ∀ c, c < 5 → ms' c = ms c) (hf : ms' 10 0 = ms 10 0 ∧ ms' 10 1 = ms 10 1) : Rel SO cs' ms' := by
  obtain ⟨g1, ⟨n, w, g2⟩, ⟨h1, h2⟩, h3, h4, h5⟩ := hR
  refine ⟨g1.congr (fun c _ _ => hc (0 + c) (by omega) (by omega)) (hm 0 (by omega)), ⟨n, w, by rw [hm 0 (by omega)]; exact g2⟩, ⟨by rw [hc 51 (by omega) (by omega), hf.1]; exact h1, by rw [hc 51 (by omega) (by omega), hf.2]; exact h2⟩, fun hk => ?_, h4.congr (fun c _ _ => hc c (by omega) (by omega)) (fun c _ _ => hm c (by omega)), hs⟩
  rw [hf.1] at hk
  obtain ⟨q1, n', w', q2⟩ := h3 hk
  exact ⟨q1.congr (fun c _ _ => hc (16 + c) (by omega) (by omega)) (hm 1 (by omega)), n', w', by rw [hm 1 (by omega)]; exact q2⟩
/-! findings -/
theorem fin_c (st : St) (v : Int32) : f_X5_finding st v = some (v, sU st 51 1 (st 51 1 + 1)) := rfl
theorem fin_m (st : St) (v : Int32) : f_X6_finding st v = some (v, sU st 10 1 (st 10 1 + 1)) := rfl
theorem Rel.fin {SO : St → Prop} {cs ms : St} (hSO : SOk SO) (hR : Rel SO cs ms) : Rel SO (sU cs 51 1 (cs 51 1 + 1)) (sU ms 10 1 (ms 10 1 + 1)) := by
  obtain ⟨g1, g2, ⟨h1, h2⟩, h3, h4, h5⟩ := hR
  have e : ∀ c, ¬ c = 51 → sU cs 51 1 (cs 51 1 + 1) c = cs c := fun c h => sU_ne _ _ _ h
  have e2 : ∀ c, ¬ c = 10 → sU ms 10 1 (ms 10 1 + 1) c = ms c := fun c h => sU_ne _ _ _ h
  have k0 : sU ms 10 1 (ms 10 1 + 1) 10 0 = ms 10 0 := by rw [sU_eq, upd_ne _ _ (by omega)]
  refine ⟨g1.congr (fun c _ _ => e _ (by omega)) (e2 0 (by omega)), by rw [e2 0 (by omega)]; exact g2, ⟨by rw [sU_eq, upd_ne _ _ (by omega), k0]; exact h1, by rw [sU_eq, upd_eq, sU_eq, upd_eq, h2]⟩, fun hk => ?_, h4.congr (fun c _ _ => e c (by omega)) (fun c _ _ => e2 c (by omega)), hSO _ _ (fun c _ _ => e c (by omega)) h5⟩
  rw [k0] at hk
  obtain ⟨q1, q2⟩ := h3 hk
  exact ⟨q1.congr (fun c _ _ => e _ (by omega)) (e2 1 (by omega)), by rw [e2 1 (by omega)]; exact q2⟩
theorem fin_step {SO : St → Prop} {cs ms : St} (hSO : SOk SO) (hR : Rel SO cs ms) (v : Int32) : StepI (Rel SO) (bd2 (f_X5_finding cs v) fun r st => some (r, st)) (bd2 (f_X6_finding ms v) fun r st => some (r, st)) :=
  ⟨v, _, _, rfl, rfl, hR.fin hSO⟩
/-! the small questions -/
theorem i32_lt (a b : Int32) : a < b ↔ a.toInt < b.toInt := Int32.lt_iff_toInt_lt
theorem i32_le (a b : Int32) : a ≤ b ↔ a.toInt ≤ b.toInt := Int32.le_iff_toInt_le
theorem w_iff (x lo hi : Int32) : f_X6_within x lo hi = true ↔ lo.toInt ≤ x.toInt ∧ x.toInt ≤ hi.toInt := by
  unfold f_X6_within
  by_cases h1 : x < lo
  · rw [if_pos h1]
    rw [i32_lt] at h1
    constructor
    · intro h; cases h
    · intro h; omega
  · rw [if_neg h1]
    rw [i32_lt] at h1
    by_cases h2 : hi < x
    · rw [if_pos h2]
      rw [i32_lt] at h2
      constructor
      · intro h; cases h
      · intro h; omega
    · rw [if_neg h2]
      rw [i32_lt] at h2
      constructor
      · intro _; omega
      · intro _; rfl
theorem isDist_w (x : Int32) : f_X5_isDistance x = f_X6_within x 0 99 := rfl
theorem isYear_w (x : Int32) : f_X5_isYear x = f_X6_isYear x := rfl
theorem ge_gt {x : Int32} (c d : Int32) (h : d.toInt = c.toInt - 1) : (c ≤ x) = (d < x) := by
  rw [i32_le, i32_lt, h]
  apply propext
  constructor <;> intro _ <;> omega
theorem isKind_w (x : Int32) : f_X5_isKind x = f_X6_within x 0 3 := by
  unfold f_X5_isKind f_X6_within
  by_cases h : x < 0
  · rw [if_pos h, if_pos h]
  · rw [if_neg h, if_neg h]
    by_cases h2 : 4 ≤ x
    · rw [if_pos h2, if_pos ((ge_gt 4 3 (by decide)) ▸ h2)]
    · rw [if_neg h2, if_neg ((ge_gt (x := x) 4 3 (by decide)) ▸ h2)]
theorem isGood_w (x : Int32) : f_X5_isGood x = f_X6_isGood x := by
  unfold f_X5_isGood f_X6_isGood bnd f_X6_within
  by_cases h : x < 0
  · rw [if_pos h, if_pos h]
  · rw [if_neg h, if_neg h]
    by_cases h2 : 12 ≤ x
    · rw [if_pos h2, if_pos ((ge_gt 12 11 (by decide)) ▸ h2)]
    · rw [if_neg h2, if_neg ((ge_gt (x := x) 12 11 (by decide)) ▸ h2)]
theorem isMark_w (x : Int32) : f_X5_isMark x = f_X6_isMark x := by
  unfold f_X5_isMark f_X6_isMark bnd f_X6_within
  by_cases h : x < 0
  · rw [if_pos h, if_pos h]
  · rw [if_neg h, if_neg h]
    by_cases h2 : 6 ≤ x
    · rw [if_pos h2, if_pos ((ge_gt 6 5 (by decide)) ▸ h2)]
    · rw [if_neg h2, if_neg ((ge_gt (x := x) 6 5 (by decide)) ▸ h2)]
theorem isSheet_w (x : Int32) : f_X5_isSheet x = f_X6_isSheet x := by
  unfold f_X5_isSheet f_X6_isSheet bnd f_X6_within
  by_cases h : x < 0
  · rw [if_pos h, if_pos h]
  · rw [if_neg h, if_neg h]
    by_cases h2 : 4 ≤ x
    · rw [if_pos h2, if_pos ((ge_gt 4 3 (by decide)) ▸ h2)]
    · rw [if_neg h2, if_neg ((ge_gt (x := x) 4 3 (by decide)) ▸ h2)]
theorem in_range {x : Int32} {m : Nat} (hm : m < 2 ^ 31) (h : 0 ≤ x.toInt ∧ x.toInt < m) : ∃ k, k < m ∧ x = nI k := by
  refine ⟨x.toInt.toNat, by omega, ?_⟩
  apply Int32.toInt_inj.mp
  rw [nI_toInt (by omega)]
  omega
theorem w_nI {x : Int32} {hi : Int32} {m : Nat} (hm : m < 2 ^ 31) (hh : hi.toInt = (m : Int) - 1) (h : f_X6_within x 0 hi = true) : ∃ k, k < m ∧ x = nI k := by
  rw [w_iff, hh] at h
  exact in_range hm ⟨h.1, by omega⟩
/-- a number is no grave, or one of them -/
theorem gr_cases {cs ms : St} {n : Nat} (e : cs 13 0 = ms 0 0) (h0 : ms 0 0 = nI n) (hn : n ≤ 10) (x : Int32) : (f_X6_isGrave ms x = false ∧ f_X2_holds cs x = false) ∨ (f_X6_isGrave ms x = true ∧ f_X2_holds cs x = true ∧ ∃ k, k < n ∧ x = nI k) := by
  have e1 : (nI n - 1).toInt = (n : Int) - 1 := pk_sub_toInt (a := n) (b := 1) (by omega) (by omega)
  have e2 : (nI n).toInt = (n : Int) := nI_toInt (by omega)
  have eq : f_X2_holds cs x = f_X6_isGrave ms x := by
    unfold f_X2_holds f_X6_isGrave bnd f_X6_within
    rw [e, h0]
    by_cases h : x < 0
    · rw [if_pos h, if_pos h]
    · rw [if_neg h, if_neg h]
      have q : (nI n ≤ x) = (nI n - 1 < x) := ge_gt _ _ (by rw [e1, e2])
      by_cases h2 : nI n ≤ x
      · rw [if_pos h2, if_pos (q ▸ h2)]
      · rw [if_neg h2, if_neg (q ▸ h2)]
  rw [eq]
  cases h : f_X6_isGrave ms x
  · exact Or.inl ⟨rfl, rfl⟩
  · refine Or.inr ⟨rfl, rfl, ?_⟩
    unfold f_X6_isGrave bnd at h
    rw [h0, w_iff, e1] at h
    exact in_range (by omega) ⟨h.1, by omega⟩
theorem ck_2 {β : Type} {n k : Nat} {K : Nat → Option β} (h : 2 + k < n) (hk : k < 2 ^ 30) : ck n ((2 : Int32) + nI k) K = K (2 + k) := by
  rw [show (2 : Int32) + nI k = nI (2 + k) from nI_add 2 k]
  exact ck_nI h (by omega)
theorem sto_2 {β : Type} {n k d : Nat} {st : St} {x : Int32} {K : St → Option β} (h : 2 + k < n) (hk : k < 2 ^ 30) : sto n st d ((2 : Int32) + nI k) x K = K (sU st d (2 + k) x) := by
  rw [show (2 : Int32) + nI k = nI (2 + k) from nI_add 2 k]
  exact sto_nI h (by omega)
theorem ck_12 {β : Type} {n k : Nat} {K : Nat → Option β} (h : 12 + k < n) (hk : k < 2 ^ 30) : ck n ((12 : Int32) + nI k) K = K (12 + k) := by
  rw [show (12 : Int32) + nI k = nI (12 + k) from nI_add 12 k]
  exact ck_nI h (by omega)
theorem sto_12 {β : Type} {n k d : Nat} {st : St} {x : Int32} {K : St → Option β} (h : 12 + k < n) (hk : k < 2 ^ 30) : sto n st d ((12 : Int32) + nI k) x K = K (sU st d (12 + k) x) := by
  rw [show (12 : Int32) + nI k = nI (12 + k) from nI_add 12 k]
  exact sto_nI h (by omega)
theorem ck_22 {β : Type} {n k : Nat} {K : Nat → Option β} (h : 22 + k < n) (hk : k < 2 ^ 30) : ck n ((22 : Int32) + nI k) K = K (22 + k) := by
  rw [show (22 : Int32) + nI k = nI (22 + k) from nI_add 22 k]
  exact ck_nI h (by omega)
theorem sto_22 {β : Type} {n k d : Nat} {st : St} {x : Int32} {K : St → Option β} (h : 22 + k < n) (hk : k < 2 ^ 30) : sto n st d ((22 : Int32) + nI k) x K = K (sU st d (22 + k) x) := by
  rw [show (22 : Int32) + nI k = nI (22 + k) from nI_add 22 k]
  exact sto_nI h (by omega)
theorem ck_32 {β : Type} {n k : Nat} {K : Nat → Option β} (h : 32 + k < n) (hk : k < 2 ^ 30) : ck n ((32 : Int32) + nI k) K = K (32 + k) := by
  rw [show (32 : Int32) + nI k = nI (32 + k) from nI_add 32 k]
  exact ck_nI h (by omega)
theorem sto_32 {β : Type} {n k d : Nat} {st : St} {x : Int32} {K : St → Option β} (h : 32 + k < n) (hk : k < 2 ^ 30) : sto n st d ((32 : Int32) + nI k) x K = K (sU st d (32 + k) x) := by
  rw [show (32 : Int32) + nI k = nI (32 + k) from nI_add 32 k]
  exact sto_nI h (by omega)
theorem ck_42 {β : Type} {n k : Nat} {K : Nat → Option β} (h : 42 + k < n) (hk : k < 2 ^ 30) : ck n ((42 : Int32) + nI k) K = K (42 + k) := by
  rw [show (42 : Int32) + nI k = nI (42 + k) from nI_add 42 k]
  exact ck_nI h (by omega)
theorem sto_42 {β : Type} {n k d : Nat} {st : St} {x : Int32} {K : St → Option β} (h : 42 + k < n) (hk : k < 2 ^ 30) : sto n st d ((42 : Int32) + nI k) x K = K (sU st d (42 + k) x) := by
  rw [show (42 : Int32) + nI k = nI (42 + k) from nI_add 42 k]
  exact sto_nI h (by omega)
theorem ck_52 {β : Type} {n k : Nat} {K : Nat → Option β} (h : 52 + k < n) (hk : k < 2 ^ 30) : ck n ((52 : Int32) + nI k) K = K (52 + k) := by
  rw [show (52 : Int32) + nI k = nI (52 + k) from nI_add 52 k]
  exact ck_nI h (by omega)
theorem sto_52 {β : Type} {n k d : Nat} {st : St} {x : Int32} {K : St → Option β} (h : 52 + k < n) (hk : k < 2 ^ 30) : sto n st d ((52 : Int32) + nI k) x K = K (sU st d (52 + k) x) := by
  rw [show (52 : Int32) + nI k = nI (52 + k) from nI_add 52 k]
  exact sto_nI h (by omega)
theorem ck_62 {β : Type} {n k : Nat} {K : Nat → Option β} (h : 62 + k < n) (hk : k < 2 ^ 30) : ck n ((62 : Int32) + nI k) K = K (62 + k) := by
  rw [show (62 : Int32) + nI k = nI (62 + k) from nI_add 62 k]
  exact ck_nI h (by omega)
theorem sto_62 {β : Type} {n k d : Nat} {st : St} {x : Int32} {K : St → Option β} (h : 62 + k < n) (hk : k < 2 ^ 30) : sto n st d ((62 : Int32) + nI k) x K = K (sU st d (62 + k) x) := by
  rw [show (62 : Int32) + nI k = nI (62 + k) from nI_add 62 k]
  exact sto_nI h (by omega)
theorem ck_72 {β : Type} {n k : Nat} {K : Nat → Option β} (h : 72 + k < n) (hk : k < 2 ^ 30) : ck n ((72 : Int32) + nI k) K = K (72 + k) := by
  rw [show (72 : Int32) + nI k = nI (72 + k) from nI_add 72 k]
  exact ck_nI h (by omega)
theorem sto_72 {β : Type} {n k d : Nat} {st : St} {x : Int32} {K : St → Option β} (h : 72 + k < n) (hk : k < 2 ^ 30) : sto n st d ((72 : Int32) + nI k) x K = K (sU st d (72 + k) x) := by
  rw [show (72 : Int32) + nI k = nI (72 + k) from nI_add 72 k]
  exact sto_nI h (by omega)
theorem ck_82 {β : Type} {n k : Nat} {K : Nat → Option β} (h : 82 + k < n) (hk : k < 2 ^ 30) : ck n ((82 : Int32) + nI k) K = K (82 + k) := by
  rw [show (82 : Int32) + nI k = nI (82 + k) from nI_add 82 k]
  exact ck_nI h (by omega)
theorem sto_82 {β : Type} {n k d : Nat} {st : St} {x : Int32} {K : St → Option β} (h : 82 + k < n) (hk : k < 2 ^ 30) : sto n st d ((82 : Int32) + nI k) x K = K (sU st d (82 + k) x) := by
  rw [show (82 : Int32) + nI k = nI (82 + k) from nI_add 82 k]
  exact sto_nI h (by omega)
theorem ck_92 {β : Type} {n k : Nat} {K : Nat → Option β} (h : 92 + k < n) (hk : k < 2 ^ 30) : ck n ((92 : Int32) + nI k) K = K (92 + k) := by
  rw [show (92 : Int32) + nI k = nI (92 + k) from nI_add 92 k]
  exact ck_nI h (by omega)
theorem sto_92 {β : Type} {n k d : Nat} {st : St} {x : Int32} {K : St → Option β} (h : 92 + k < n) (hk : k < 2 ^ 30) : sto n st d ((92 : Int32) + nI k) x K = K (sU st d (92 + k) x) := by
  rw [show (92 : Int32) + nI k = nI (92 + k) from nI_add 92 k]
  exact sto_nI h (by omega)
theorem ck_98 {β : Type} {n k : Nat} {K : Nat → Option β} (h : 98 + k < n) (hk : k < 2 ^ 30) : ck n ((98 : Int32) + nI k) K = K (98 + k) := by
  rw [show (98 : Int32) + nI k = nI (98 + k) from nI_add 98 k]
  exact ck_nI h (by omega)
theorem sto_98 {β : Type} {n k d : Nat} {st : St} {x : Int32} {K : St → Option β} (h : 98 + k < n) (hk : k < 2 ^ 30) : sto n st d ((98 : Int32) + nI k) x K = K (sU st d (98 + k) x) := by
  rw [show (98 : Int32) + nI k = nI (98 + k) from nI_add 98 k]
  exact sto_nI h (by omega)
theorem ck_104 {β : Type} {n k : Nat} {K : Nat → Option β} (h : 104 + k < n) (hk : k < 2 ^ 30) : ck n ((104 : Int32) + nI k) K = K (104 + k) := by
  rw [show (104 : Int32) + nI k = nI (104 + k) from nI_add 104 k]
  exact ck_nI h (by omega)
theorem sto_104 {β : Type} {n k d : Nat} {st : St} {x : Int32} {K : St → Option β} (h : 104 + k < n) (hk : k < 2 ^ 30) : sto n st d ((104 : Int32) + nI k) x K = K (sU st d (104 + k) x) := by
  rw [show (104 : Int32) + nI k = nI (104 + k) from nI_add 104 k]
  exact sto_nI h (by omega)
