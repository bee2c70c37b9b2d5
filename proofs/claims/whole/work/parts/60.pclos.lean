/-! what is reached by steps -/
def rp (e : Nat → Nat) (s : Nat) : Nat → Nat
  | 0 => s
  | i + 1 => if (rp e s i).testBit i then rp e s i ||| e i else rp e s i
def itp (e : Nat → Nat) (n : Nat) (s : Nat) : Nat → Nat
  | 0 => s
  | r + 1 => rp e (itp e n s r) n
def cl (e : Nat → Nat) (n s : Nat) : Nat := itp e n s n
def sub (a b : Nat) : Prop := ∀ i, a.testBit i = true → b.testBit i = true
theorem sub_rf (a : Nat) : sub a a := fun _ h => h
theorem sub_tr {a b c : Nat} (h : sub a b) (h2 : sub b c) : sub a c := fun i hi => h2 i (h i hi)
theorem sub_eq {a b : Nat} (h : sub a b) (h2 : sub b a) : a = b := by
  apply bits_ext
  intro i
  cases ha : a.testBit i
  · cases hb : b.testBit i
    · rfl
    · rw [h2 i hb] at ha; cases ha
  · rw [h i ha]
theorem sub_or {a b c : Nat} (h : sub a c) (h2 : sub b c) : sub (a ||| b) c := by
  intro i hi
  rw [Nat.testBit_or, Bool.or_eq_true] at hi
  exact hi.elim (h i) (h2 i)
theorem sub_ol (a b : Nat) : sub a (a ||| b) := fun i hi => by rw [Nat.testBit_or, hi]; rfl
theorem sub_orr (a b : Nat) : sub b (a ||| b) := fun i hi => by rw [Nat.testBit_or, hi, Bool.or_true]
theorem rp_ge (e : Nat → Nat) (s : Nat) : ∀ i, sub s (rp e s i) := by
  intro i
  induction i with
  | zero => exact sub_rf s
  | succ i ih =>
    unfold rp
    split
    · exact sub_tr ih (sub_ol _ _)
    · exact ih
theorem rp_mono (e : Nat → Nat) (s : Nat) {i j : Nat} (h : i ≤ j) : sub (rp e s i) (rp e s j) := by
  induction j with
  | zero => have : i = 0 := by omega
            subst this; exact sub_rf _
  | succ j ih =>
    by_cases hij : i = j + 1
    · subst hij; exact sub_rf _
    · refine sub_tr (ih (by omega)) ?_
      show sub _ (if (rp e s j).testBit j then rp e s j ||| e j else rp e s j)
      split
      · exact sub_ol _ _
      · exact sub_rf _
theorem rp_in (e : Nat → Nat) (s : Nat) {n g : Nat} (hg : g < n) (h : s.testBit g = true) : sub (e g) (rp e s n) := by
  have h1 : (rp e s g).testBit g = true := rp_ge e s g g h
  have h2 : sub (e g) (rp e s (g + 1)) := by
    show sub _ (if (rp e s g).testBit g then rp e s g ||| e g else rp e s g)
    rw [if_pos h1]
    exact sub_orr _ _
  exact sub_tr h2 (rp_mono e s hg)
theorem rp_le (e : Nat → Nat) (s T n : Nat) (hs : sub s T) (hT : ∀ g, g < n → T.testBit g = true → sub (e g) T) : ∀ i, i ≤ n → sub (rp e s i) T := by
  intro i
  induction i with
  | zero => intro _; exact hs
  | succ i ih =>
    intro hi
    have := ih (by omega)
    show sub (if (rp e s i).testBit i then rp e s i ||| e i else rp e s i) T
    split
    · rename_i hb
      exact sub_or this (hT i (by omega) (this i hb))
    · exact this
theorem rp_lt {e : Nat → Nat} {s n m : Nat} (hs : s < 2 ^ m) (he : ∀ g, g < n → e g < 2 ^ m) : ∀ i, i ≤ n → rp e s i < 2 ^ m := by
  intro i
  induction i with
  | zero => intro _; exact hs
  | succ i ih =>
    intro hi
    have := ih (by omega)
    show (if (rp e s i).testBit i then rp e s i ||| e i else rp e s i) < 2 ^ m
    split
    · exact Nat.or_lt_two_pow this (he i (by omega))
    · exact this
theorem itp_lt {e : Nat → Nat} {s n : Nat} (hs : s < 2 ^ n) (he : ∀ g, g < n → e g < 2 ^ n) : ∀ r, itp e n s r < 2 ^ n := by
  intro r
  induction r with
  | zero => exact hs
  | succ r ih => exact rp_lt ih he n (Nat.le_refl n)
theorem itp_ge (e : Nat → Nat) (n s : Nat) : ∀ r, sub s (itp e n s r) := by
  intro r
  induction r with
  | zero => exact sub_rf s
  | succ r ih => exact sub_tr ih (rp_ge e _ n)
theorem itp_le (e : Nat → Nat) (n s T : Nat) (hs : sub s T) (hT : ∀ g, g < n → T.testBit g = true → sub (e g) T) : ∀ r, sub (itp e n s r) T := by
  intro r
  induction r with
  | zero => exact hs
  | succ r ih => exact rp_le e _ T n ih hT n (Nat.le_refl n)
theorem pcN_sub {a b : Nat} (h : sub a b) : ∀ m, pcN m a ≤ pcN m b := by
  intro m
  induction m with
  | zero => exact Nat.le_refl 0
  | succ m ih =>
    unfold pcN
    cases ha : a.testBit m
    · simp; omega
    · rw [h m ha]; simp; omega
theorem pcN_lt {a b m : Nat} (h : sub a b) (hb : b < 2 ^ m) (hne : ¬ a = b) : pcN m a < pcN m b := by
  obtain ⟨i, hi⟩ : ∃ i, b.testBit i = true ∧ a.testBit i = false := by
    apply Classical.byContradiction
    intro hc
    apply hne
    apply sub_eq h
    intro i hb2
    cases ha : a.testBit i
    · exact absurd ⟨i, hb2, ha⟩ hc
    · rfl
  have him : i < m := by
    rcases Nat.lt_or_ge i m with q | q
    · exact q
    · rw [bit_lt hb q] at hi; cases hi.1
  have key : ∀ m, i < m → pcN m a < pcN m b := by
    intro m
    induction m with
    | zero => intro q; omega
    | succ m ih =>
      intro q
      unfold pcN
      by_cases hm : i = m
      · subst hm
        rw [hi.1, hi.2]
        have := pcN_sub h i
        simp; omega
      · have := ih (by omega)
        cases ha : a.testBit m
        · simp; omega
        · rw [h m ha]; simp; omega
  exact key m him
theorem itp_const {e : Nat → Nat} {n s r : Nat} (h : itp e n s (r + 1) = itp e n s r) : ∀ d, itp e n s (r + d) = itp e n s r := by
  intro d
  induction d with
  | zero => rfl
  | succ d ih =>
    show rp e (itp e n s (r + d)) n = _
    rw [ih]
    exact h
theorem itp_grow {e : Nat → Nat} {n s : Nat} (hs : s < 2 ^ n) (he : ∀ g, g < n → e g < 2 ^ n) : ∀ r, (∃ q, q ≤ r ∧ itp e n s (q + 1) = itp e n s q) ∨ r + 1 ≤ pcN n (itp e n s (r + 1)) := by
  intro r
  induction r with
  | zero =>
    by_cases h : itp e n s 1 = itp e n s 0
    · exact Or.inl ⟨0, Nat.le_refl 0, h⟩
    · right
      have := pcN_lt (m := n) (rp_ge e (itp e n s 0) n) (itp_lt hs he 1) (fun q => h q.symm)
      show 1 ≤ pcN n (itp e n s 1)
      have h2 : pcN n (itp e n s 0) < pcN n (itp e n s 1) := this
      omega
  | succ r ih =>
    rcases ih with ⟨q, hq, e2⟩ | ih
    · exact Or.inl ⟨q, by omega, e2⟩
    · by_cases h : itp e n s (r + 1 + 1) = itp e n s (r + 1)
      · exact Or.inl ⟨r + 1, Nat.le_refl _, h⟩
      · right
        have h2 : pcN n (itp e n s (r + 1)) < pcN n (itp e n s (r + 1 + 1)) := pcN_lt (m := n) (rp_ge e (itp e n s (r + 1)) n) (itp_lt hs he (r + 1 + 1)) (fun q => h q.symm)
        omega
theorem cl_fix {e : Nat → Nat} {n s : Nat} (hs : s < 2 ^ n) (he : ∀ g, g < n → e g < 2 ^ n) : itp e n s (n + 1) = itp e n s n := by
  rcases itp_grow hs he n with ⟨q, hq, h⟩ | h
  · have h1 := itp_const h (n - q)
    have h2 := itp_const h (n + 1 - q)
    rw [show q + (n - q) = n by omega] at h1
    rw [show q + (n + 1 - q) = n + 1 by omega] at h2
    rw [h1, h2]
  · have := pcN_le n (itp e n s (n + 1))
    omega
theorem cl_lt {e : Nat → Nat} {n s : Nat} (hs : s < 2 ^ n) (he : ∀ g, g < n → e g < 2 ^ n) : cl e n s < 2 ^ n := itp_lt hs he n
theorem cl_ge (e : Nat → Nat) (n s : Nat) : sub s (cl e n s) := itp_ge e n s n
theorem cl_le (e : Nat → Nat) (n s T : Nat) (hs : sub s T) (hT : ∀ g, g < n → T.testBit g = true → sub (e g) T) : sub (cl e n s) T := itp_le e n s T hs hT n
theorem cl_in {e : Nat → Nat} {n s g : Nat} (hs : s < 2 ^ n) (he : ∀ g, g < n → e g < 2 ^ n) (hg : g < n) (h : (cl e n s).testBit g = true) : sub (e g) (cl e n s) := by
  have h1 := rp_in e (cl e n s) hg h
  have h2 : rp e (cl e n s) n = cl e n s := cl_fix hs he
  rw [h2] at h1
  exact h1
/-! the class's walk -/
theorem pass_c {st : St} {N n s : Nat} {x3 x4 : Int32} (e : Nat → Nat) (K : Int32 → Int32 → Option Int32) (hN : 100 ≤ N) (hn : n ≤ 10) (e0 : st 13 0 = nI n) (he : ∀ g, g < n → st 12 g = nI (e g)) : f_X2_reachedFrom_L18 N x3 x4 st K N (nI s) 0 = K (nI (rp e s n)) (nI n) := by
  refine loopF (fun fuel s i => f_X2_reachedFrom_L18 N x3 x4 st K fuel s i) (fun s => K s (nI n)) n (fun i => nI (rp e s i)) (fun i fuel hi => ?_) (fun fuel => ?_) n 0 N (by omega) (by omega)
  · show f_X2_reachedFrom_L18 N x3 x4 st K (fuel + 1) _ _ = f_X2_reachedFrom_L18 N x3 x4 st K fuel (nI (if (rp e s i).testBit i then rp e s i ||| e i else rp e s i)) _
    rw [f_X2_reachedFrom_L18, e0, if_neg (nI_ge hi (by omega)), bnd_s, isIn_bt _ (by omega), nI_bt (by omega), nI_1]
    cases hb : (rp e s i).testBit i
    · simp only [b2i_f, if_true]; rfl
    · simp only [b2i_t, if_false]
      rw [ck_nI (by omega) (by omega), bnd_s, he i hi, nI_or]; rfl
  · show f_X2_reachedFrom_L18 N x3 x4 st K (fuel + 1) _ _ = _
    rw [f_X2_reachedFrom_L18, e0, if_pos (nI_le (Nat.le_refl n) (by omega))]
theorem p2_31 {n t : Nat} (hn : n ≤ 10) (h : t < 2 ^ n) : t < 2 ^ 31 := by
  have := pow_le10 hn
  omega
theorem reach_c {st : St} {N n s : Nat} (e : Nat → Nat) (hN : 100 ≤ N) (hn : n ≤ 10) (e0 : st 13 0 = nI n) (he : ∀ g, g < n → st 12 g = nI (e g)) (hs : s < 2 ^ n) (hel : ∀ g, g < n → e g < 2 ^ n) : f_X2_reachedFrom N st (nI s) = some (nI (cl e n s)) := by
  unfold f_X2_reachedFrom
  have key : ∀ d r fuel, r + d = n → d < fuel → f_X2_reachedFrom_L4 N st (fun a_10 _ => some a_10) fuel (nI (itp e n s r)) (nI r) = some (nI (cl e n s)) := by
    intro d
    induction d with
    | zero =>
      intro r fuel h1 h2
      obtain ⟨fuel, rfl⟩ : ∃ f, fuel = f + 1 := ⟨fuel - 1, by omega⟩
      have : r = n := by omega
      subst this
      rw [f_X2_reachedFrom_L4, e0, if_pos (nI_le (Nat.le_refl r) (by omega))]
      rfl
    | succ d ih =>
      intro r fuel h1 h2
      obtain ⟨fuel, rfl⟩ : ∃ f, fuel = f + 1 := ⟨fuel - 1, by omega⟩
      rw [f_X2_reachedFrom_L4, e0, if_neg (nI_ge (by omega) (by omega)), pass_c e _ hN hn e0 he]
      show (if nI (itp e n s (r + 1)) = nI (itp e n s r) then some (nI (itp e n s (r + 1))) else f_X2_reachedFrom_L4 N st (fun a_10 _ => some a_10) fuel (nI (itp e n s (r + 1))) (nI r + 1)) = _
      by_cases h : itp e n s (r + 1) = itp e n s r
      · rw [if_pos (by rw [h])]
        have hc := itp_const h (n - r)
        rw [show r + (n - r) = n by omega] at hc
        unfold cl
        rw [h, hc]
      · rw [if_neg (fun q => h (nI_inj (p2_31 hn (itp_lt hs hel _)) (p2_31 hn (itp_lt hs hel _)) q)), nI_1]
        exact ih (r + 1) fuel (by omega) (by omega)
  exact key n 0 N (by omega) (by omega)
/-! the reference's walk -/
theorem pass_m {ms : St} {N n w s : Nat} {x3 : Int32} (K : Int32 → Int32 → Option Int32) (hO : GO n w (ms 0)) (hN : 100 ≤ N) : f_X6_below_L22 N x3 ms K N (nI s) 0 = K (nI (rp (cN (ms 0)) s n)) (nI n) := by
  have hn := hO.1
  have e0 : ms 0 0 = nI n := hO.2.2.1
  refine loopF (fun fuel s i => f_X6_below_L22 N x3 ms K fuel s i) (fun s => K s (nI n)) n (fun i => nI (rp (cN (ms 0)) s i)) (fun i fuel hi => ?_) (fun fuel => ?_) n 0 N (by omega) (by omega)
  · show f_X6_below_L22 N x3 ms K (fuel + 1) _ _ = f_X6_below_L22 N x3 ms K fuel (nI (if (rp (cN (ms 0)) s i).testBit i then rp (cN (ms 0)) s i ||| cN (ms 0) i else rp (cN (ms 0)) s i)) _
    rw [f_X6_below_L22, e0, if_neg (nI_ge hi (by omega)), b_tst _ (by omega), nI_bt (by omega), nI_1, ck_62 (by omega) (by omega)]
    simp only [bnd_s, b2i_1]
    cases hb : (rp (cN (ms 0)) s i).testBit i
    · simp only [Bool.false_eq_true, if_false]
      rw [show nI (rp (cN (ms 0)) s i) ||| (0 : Int32) = nI (rp (cN (ms 0)) s i ||| 0) from nI_or _ 0, Nat.or_zero]
    · simp only [if_true]
      rw [cN_eq (ms 0) i, nI_or]
  · show f_X6_below_L22 N x3 ms K (fuel + 1) _ _ = _
    rw [f_X6_below_L22, e0, if_pos (nI_le (Nat.le_refl n) (by omega))]
theorem below_m {ms : St} {N n w k : Nat} (hO : GO n w (ms 0)) (hN : 100 ≤ N) (hk : k < n) : f_X6_below N ms (nI k) = some (nI (cl (cN (ms 0)) n (cN (ms 0) k))) := by
  have hn := hO.1
  have hs := hO.cN_lt hk
  have hel : ∀ g, g < n → cN (ms 0) g < 2 ^ n := fun g hg => hO.cN_lt hg
  unfold f_X6_below
  rw [ck_62 (by omega) (by omega), bnd_s, cN_eq (ms 0) k]
  generalize cN (ms 0) k = s at hs
  have fin : ∀ r, itp (cN (ms 0)) n s (r + 1) = itp (cN (ms 0)) n s r → r ≤ n → itp (cN (ms 0)) n s (r + 1) = cl (cN (ms 0)) n s := by
    intro r h hr
    have hc := itp_const h (n - r)
    rw [show r + (n - r) = n by omega] at hc
    unfold cl
    rw [h, hc]
  have key : ∀ d r fuel, r + d = n → d + 1 < fuel → f_X6_below_L12 N ms (fun a_11 _ => some a_11) fuel (nI (itp (cN (ms 0)) n s (r + 1))) (nI (itp (cN (ms 0)) n s r)) = some (nI (cl (cN (ms 0)) n s)) := by
    intro d
    induction d with
    | zero =>
      intro r fuel h1 h2
      obtain ⟨fuel, rfl⟩ : ∃ f, fuel = f + 1 := ⟨fuel - 1, by omega⟩
      have : r = n := by omega
      subst this
      have h := cl_fix hs hel
      rw [f_X6_below_L12, if_pos (by rw [h]), fin _ h (Nat.le_refl _)]
    | succ d ih =>
      intro r fuel h1 h2
      obtain ⟨fuel, rfl⟩ : ∃ f, fuel = f + 1 := ⟨fuel - 1, by omega⟩
      rw [f_X6_below_L12]
      by_cases h : itp (cN (ms 0)) n s (r + 1) = itp (cN (ms 0)) n s r
      · rw [if_pos (by rw [h]), fin _ h (by omega)]
      · rw [if_neg (fun q => h (nI_inj (p2_31 hn (itp_lt hs hel _)) (p2_31 hn (itp_lt hs hel _)) q)), pass_m _ hO hN]
        exact ih (r + 1) fuel (by omega) (by omega)
  obtain ⟨N', rfl⟩ : ∃ f, N = f + 1 := ⟨N - 1, by omega⟩
  rw [f_X6_below_L12, if_neg (fun q => ?_), pass_m _ hO hN]
  · exact key n 0 N' (by omega) (by omega)
  · have h1 : (nI s).toInt = (s : Int) := nI_toInt (p2_31 hn hs)
    rw [q] at h1
    have h2 : (-1 : Int32).toInt = -1 := by decide
    rw [h2] at h1
    omega
/-! the class: what is earlier -/
def stp (st : St) (f : Nat → Int32) (i : Nat) : St := sF st 12 (cpF f (st 12) i)
theorem stp_0 (st : St) (f : Nat → Int32) : stp st f 0 = st := by
  unfold stp; rw [cpF_0, sF_self]
theorem stp_s (st : St) (f : Nat → Int32) (i : Nat) : sU (stp st f i) 12 i (f i) = stp st f (i + 1) := by
  unfold stp; rw [sU_sF, cpF_s]
theorem stp_ne (st : St) (f : Nat → Int32) (i : Nat) {c : Nat} (h : ¬ c = 12) : stp st f i c = st c := sF_ne _ _ h
theorem stp_at (st : St) (f : Nat → Int32) {i g : Nat} (h : g < i) : stp st f i 12 g = f g := by
  unfold stp; rw [sF_eq]; unfold cpF; rw [if_pos h]
theorem earlier_c {cs ms : St} {N n w k : Nat} (hG : GR cs 0 (ms 0)) (hO : GO n w (ms 0)) (hN : 100 ≤ N) (hk : k < n) : f_X2_earlierThan N cs (nI k) = some (nI (cl (cN (ms 0)) n (cN (ms 0) k)), stp cs (cs 6) n) := by
  have hn := hO.1
  have e0 : cs 13 0 = nI n := hG.1.trans hO.2.2.1
  have hel : ∀ g, g < n → cN (ms 0) g < 2 ^ n := fun g hg => hO.cN_lt hg
  have e6 : ∀ g, g < n → cs 6 g = nI (cN (ms 0) g) := fun g hg => (hG.at 6 (by omega) (by omega)).trans (cN_eq _ _)
  unfold f_X2_earlierThan
  have h := loopF (fun fuel s i => f_X2_earlierThan_L2 N (nI k) (fun a_4 st_5 => ck 10 (nI k) fun j_6 => bd1 (f_X2_reachedFrom N st_5 (st_5 12 j_6)) fun r_8 => some (r_8, st_5)) fuel i s) (fun s => ck 10 (nI k) fun j_6 => bd1 (f_X2_reachedFrom N s (s 12 j_6)) fun r_8 => some (r_8, s)) n (fun i => stp cs (cs 6) i) (fun i fuel hi => ?_) (fun fuel => ?_) n 0 N (by omega) (by omega)
  · have h' : f_X2_earlierThan_L2 N (nI k) (fun a_4 st_5 => ck 10 (nI k) fun j_6 => bd1 (f_X2_reachedFrom N st_5 (st_5 12 j_6)) fun r_8 => some (r_8, st_5)) N 0 cs = ck 10 (nI k) fun j_6 => bd1 (f_X2_reachedFrom N (stp cs (cs 6) n) (stp cs (cs 6) n 12 j_6)) fun r_8 => some (r_8, stp cs (cs 6) n) := by
      have q := h
      simp only [stp_0] at q
      exact q
    rw [h', ck_nI (by omega) (by omega), stp_at _ _ hk, e6 k hk, reach_c (cN (ms 0)) hN hn (by rw [stp_ne _ _ _ (by omega)]; exact e0) (fun g hg => by rw [stp_at _ _ hg]; exact e6 g hg) (hel k hk) hel, bd1_s]
  · show f_X2_earlierThan_L2 N (nI k) _ (fuel + 1) (nI i) _ = _
    rw [f_X2_earlierThan_L2, stp_ne _ _ _ (show ¬ 13 = 12 by omega), e0, if_neg (nI_ge hi (by omega)), ck_nI (by omega) (by omega), sto_nI (by omega) (by omega), stp_ne _ _ _ (show ¬ 6 = 12 by omega), stp_s, nI_1]
  · show f_X2_earlierThan_L2 N (nI k) _ (fuel + 1) (nI n) _ = _
    rw [f_X2_earlierThan_L2, stp_ne _ _ _ (show ¬ 13 = 12 by omega), e0, if_pos (nI_le (Nat.le_refl n) (by omega))]
