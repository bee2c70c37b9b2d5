/-! what the class's search keeps -/
def dG (st : St) : Nat → Nat := fun i => tn (st 40 i)
def dL (st : St) : Nat → Nat := fun i => tn (st 41 i)
def dC (st : St) : Nat → Nat := fun i => tn (st 42 i)
def dT (st : St) : Nat → Nat := fun X => tn (st 44 X)
def dR (st : St) : Nat → Nat := fun j => tn (st 46 j)
def SOK (st : St) (n : Nat) : Prop := SI st n (dG st) (dL st) (dC st) ∧ GSok st n (dG st) ∧ Tab st n (dG st) (dL st) (dC st) 0 ∧ ∀ j, j < n → FR (dG st) (dL st) (dC st) n (dT st) (rs (dR st) j) (dR st j)
def SO (st : St) : Prop := st 43 0 = 0 ∧ (¬ st 47 0 = 0 → SOK st (tn (st 47 0)))
theorem SOK_congr {a b : St} {n : Nat} (h : ∀ c, 40 ≤ c → c < 48 → b c = a c) (hs : SOK a n) : SOK b n := by
  unfold SOK SI GSok Tab dG dL dC dT dR at *
  rw [h 40 (by omega) (by omega), h 41 (by omega) (by omega), h 42 (by omega) (by omega), h 43 (by omega) (by omega), h 44 (by omega) (by omega), h 45 (by omega) (by omega), h 46 (by omega) (by omega), h 47 (by omega) (by omega)]
  exact hs
theorem SO_ok : SOk SO := by
  intro cs cs' h hs
  refine ⟨by rw [h 43 (by omega) (by omega)]; exact hs.1, fun hz => ?_⟩
  rw [h 47 (by omega) (by omega)] at hz ⊢
  exact SOK_congr h (hs.2 hz)
theorem tkF_f {st : St} {a : Nat → Int32} {mask : Nat} {b : Bool} : ∀ i, tkF st a mask b i = false → b = false ∧ ∀ j, j < i → st 40 j = nI (tkG a mask j) ∧ st 41 j = nI (tkL a mask j) ∧ st 42 j = nI (cN a j) := by
  intro i
  induction i with
  | zero => intro h; exact ⟨h, fun j hj => by omega⟩
  | succ i ih =>
    intro h
    unfold tkF at h
    rw [Bool.or_eq_false_iff, Bool.not_eq_false', Bool.and_eq_true, Bool.and_eq_true, decide_eq_true_eq, decide_eq_true_eq, decide_eq_true_eq] at h
    obtain ⟨h1, h2⟩ := ih h.1
    refine ⟨h1, fun j hj => ?_⟩
    by_cases q : j = i
    · subst q; exact h.2
    · exact h2 j (by omega)
theorem cpF_same {f g : Nat → Int32} {i : Nat} (h : ∀ j, j < i → f j = g j) : cpF f g i = g := by
  funext j
  unfold cpF
  by_cases q : j < i
  · rw [if_pos q]; exact h j q
  · rw [if_neg q]
theorem gz_b {β : Type} (b : Bool) (K : Bool → Option β) : gz (b2i b) K = K b := by
  unfold gz
  cases b
  · rw [if_pos (show b2i false = (0 : Int32) by decide)]
  · rw [if_neg (show ¬ b2i true = (0 : Int32) by decide), if_pos (show b2i true = (1 : Int32) by decide)]
theorem imin8 {n : Nat} (h : n ≤ 8) : imin (nI n) 8 = nI n := by
  unfold imin
  rw [if_neg (show ¬ (8 : Int32) < nI n from fun q => by
    rw [i32_lt, show (8 : Int32).toInt = 8 by decide, nI_toInt (by omega)] at q
    omega)]
theorem take_c {st ms : St} {N n w mask : Nat} (hG : GR st 0 (ms 0)) (hO : GO n w (ms 0)) (hN : 100 ≤ N) (h8 : n ≤ 8) : ∃ b st', f_X3_takeIn N st (nI mask) = some (b, st') ∧ (∀ c, ¬ (40 ≤ c ∧ c ≤ 42) → ¬ c = 47 → st' c = st c) ∧ st' 47 0 = nI n ∧ (∀ i, i < n → st' 40 i = nI (tkG (ms 0) mask i) ∧ st' 41 i = nI (tkL (ms 0) mask i) ∧ st' 42 i = nI (cN (ms 0) i)) ∧ (b = false → st' = st) := by
  have e1 : st 13 0 = nI n := hG.1.trans hO.2.2.1
  have hG0 : GR (sU st 47 0 (nI n)) 0 (ms 0) := hG.congr (fun c hc _ => sU_ne _ _ _ (by omega)) rfl
  have e47 : sU st 47 0 (nI n) 47 0 = nI n := by rw [sU_eq, upd_eq]
  have go : ∀ b0, (b0 = false → st 47 0 = nI n) → ∃ b st', f_X3_takeIn_L33 N (nI mask) (fun a_27 _ st_29 => gz a_27 fun b_30 => some (b_30, st_29)) N (b2i b0) 0 (sU st 47 0 (nI n)) = some (b, st') ∧ (∀ c, ¬ (40 ≤ c ∧ c ≤ 42) → ¬ c = 47 → st' c = st c) ∧ st' 47 0 = nI n ∧ (∀ i, i < n → st' 40 i = nI (tkG (ms 0) mask i) ∧ st' 41 i = nI (tkL (ms 0) mask i) ∧ st' 42 i = nI (cN (ms 0) i)) ∧ (b = false → st' = st) := by
    intro b0 hb0
    refine ⟨tkF (sU st 47 0 (nI n)) (ms 0) mask b0 n, tkS (sU st 47 0 (nI n)) (ms 0) mask n, ?_, fun c h1 h2 => ?_, ?_, fun i hi => ?_, fun hf => ?_⟩
    · rw [take_loop _ hG0 hO hN h8 e47, gz_b]
    · rw [tkS_ne _ _ _ _ h1, sU_ne _ _ _ h2]
    · rw [tkS_ne _ _ _ _ (by omega)]; exact e47
    · rw [tkS_40, tkS_41, tkS_42]
      unfold cpF
      rw [if_pos hi, if_pos hi, if_pos hi]
      exact ⟨rfl, rfl, rfl⟩
    · obtain ⟨h1, h2⟩ := tkF_f n hf
      have hs0 : sU st 47 0 (nI n) = st := by
        funext c
        by_cases q : c = 47
        · subst q
          rw [sU_eq]
          funext j
          unfold upd
          by_cases q2 : j = 0
          · subst q2; rw [if_pos rfl]; exact (hb0 h1).symm
          · rw [if_neg q2]
        · rw [sU_ne _ _ _ q]
      rw [hs0] at h2 ⊢
      unfold tkS
      rw [cpF_same (fun j hj => (h2 j hj).1.symm), cpF_same (fun j hj => (h2 j hj).2.1.symm), cpF_same (fun j hj => (h2 j hj).2.2.symm), sF_self, sF_self, sF_self]
  unfold f_X3_takeIn
  simp only [bnd_s]
  rw [e1, imin8 h8]
  by_cases q : st 47 0 = nI n
  · rw [if_pos q]
    exact go false (fun _ => q)
  · rw [if_neg q]
    exact go true (fun z => by cases z)
theorem and_lt4 {a b : Nat} (h : a < 4096) : a &&& b < 4096 := and_lt h
theorem lkN_lt (a : Nat → Int32) (g : Nat) : lkN a g < 4096 := by
  unfold lkN
  cases mh a g
  · exact Nat.lt_of_le_of_lt Nat.and_le_left (by omega)
  · show (0 : Nat) < 4096
    omega
theorem solve_c {st ms : St} {N n w mask : Nat} (hG : GR st 0 (ms 0)) (hO : GO n w (ms 0)) (hN : 1000 ≤ N) (h1 : 1 ≤ n) (h8 : n ≤ 8) (hS : SO st) : ∃ st', f_X3_solve N st (nI mask) = some st' ∧ (∀ c, ¬ (40 ≤ c ∧ c ≤ 47) → st' c = st c) ∧ SO st' ∧ SOK st' n ∧ (∀ i, i < n → dG st' i = tkG (ms 0) mask i ∧ dL st' i = tkL (ms 0) mask i ∧ dC st' i = cN (ms 0) i) := by
  have hn := hO.1
  obtain ⟨b, s1, z1, z2, z3, z4, z5⟩ := take_c (N := N) (mask := mask) hG hO (by omega) h8
  have tlt : ∀ i, i < n → tkG (ms 0) mask i < 4096 ∧ tkL (ms 0) mask i < 4096 ∧ cN (ms 0) i < 2 ^ n := fun i hi => ⟨and_lt (hO.gN_lt hi), and_lt (lkN_lt _ _), hO.cN_lt hi⟩
  have pw := pow_le10 hn
  have td : ∀ s : St, (∀ c, 40 ≤ c → c ≤ 42 → s c = s1 c) → ∀ i, i < n → dG s i = tkG (ms 0) mask i ∧ dL s i = tkL (ms 0) mask i ∧ dC s i = cN (ms 0) i := fun s hs i hi => by
    obtain ⟨q1, q2, q3⟩ := z4 i hi
    obtain ⟨t1, t2, t3⟩ := tlt i hi
    unfold dG dL dC
    rw [hs 40 (by omega) (by omega), hs 41 (by omega) (by omega), hs 42 (by omega) (by omega), q1, q2, q3, tn_nI (by omega), tn_nI (by omega), tn_nI (by omega)]
    exact ⟨rfl, rfl, rfl⟩
  unfold f_X3_solve
  rw [z1, bd2_s]
  cases b
  · simp only [b2i_f, if_true]
    have e := z5 rfl
    subst e
    have hz : ¬ s1 47 0 = 0 := by rw [z3]; exact nI_ne0 (by omega) (by omega)
    have hk := hS.2 hz
    rw [z3, tn_nI (by omega)] at hk
    exact ⟨s1, rfl, fun _ _ => rfl, hS, hk, td s1 (fun _ _ _ => rfl)⟩
  · simp only [b2i_t, if_false]
    have hI : SI s1 n (dG s1) (dL s1) (dC s1) := by
      refine ⟨h1, h8, z3, fun i hi => ⟨(nI_tn _).symm, (nI_tn _).symm, (nI_tn _).symm⟩, fun i hi => ?_⟩
      obtain ⟨q1, q2, q3⟩ := td s1 (fun _ _ _ => rfl) i hi
      rw [q1, q2, q3]
      exact tlt i hi
    obtain ⟨s2, y1, y2, y3, y4⟩ := join_c hN hI (by rw [z2 43 (by omega) (by omega)]; exact hS.1)
    have hI2 : SI s2 n (dG s1) (dL s1) (dC s1) := hI.congr (fun c hc => y2 c (by omega))
    obtain ⟨s3, x1, x2, x3⟩ := weigh_c hN hI2 y3
    have hI3 : SI s3 n (dG s1) (dL s1) (dC s1) := hI2.congr (fun c hc => x2 c (by omega) (by omega))
    have hG3 : GSok s3 n (dG s1) := fun X hX => by rw [x2 43 (by omega) (by omega)]; exact y3 X hX
    have hr : ∃ rank : Nat → Nat, ∀ i j, i < n → j < n → (dC s1 i).testBit j = true → rank j < rank i := by
      obtain ⟨-, -, -, -, -, rank, hr⟩ := id hO
      exact ⟨rank, fun i j hi hj hb => hr i j hi hj (by rw [(td s1 (fun _ _ _ => rfl) i hi).2.2] at hb; exact hb)⟩
    obtain ⟨s4, v1, v2, v3, v4⟩ := walk_c (N := N) (by omega) hr n 0 N 0 s3 (by omega) (by omega) hI3 hG3 x3 (Nat.two_pow_pos n) (by
      have : ∀ m, pcN m 0 = 0 := by
        intro m
        induction m with
        | zero => rfl
        | succ m ih => unfold pcN; rw [ih, Nat.zero_testBit]; rfl
      exact this n) (fun g hg hb => by rw [Nat.zero_testBit] at hb; cases hb) rfl
    rw [y1, bd1_s, x1, bd1_s]
    have v1' : f_X3_walkFirstRow N s3 = some s4 := v1
    rw [v1', bd1_s]
    have c40 : ∀ c, 40 ≤ c → c ≤ 42 → s4 c = s1 c := fun c a b => by rw [v2 c (by omega), x2 c (by omega) (by omega), y2 c (by omega)]
    have dg : dG s4 = dG s1 := by unfold dG; rw [c40 40 (by omega) (by omega)]
    have dl : dL s4 = dL s1 := by unfold dL; rw [c40 41 (by omega) (by omega)]
    have dc : dC s4 = dC s1 := by unfold dC; rw [c40 42 (by omega) (by omega)]
    have dt : dT s4 = fun X => tn (s3 44 X) := by unfold dT; rw [v2 44 (by omega)]
    have e47 : s4 47 0 = nI n := by rw [v2 47 (by omega), x2 47 (by omega) (by omega), y2 47 (by omega)]; exact z3
    have hK : SOK s4 n := by
      unfold SOK
      rw [dg, dl, dc, dt]
      refine ⟨hI3.congr (fun c hc => v2 c (by omega)), fun X hX => by rw [v2 43 (by omega)]; exact hG3 X hX, ?_, fun j hj => v4 j (by omega) hj⟩
      unfold Tab
      rw [v2 44 (by omega), v2 45 (by omega)]
      exact x3
    refine ⟨s4, rfl, fun c hc => by rw [v2 c (by omega), x2 c (by omega) (by omega), y2 c (by omega)]; exact z2 c (by omega) (by omega), ⟨by rw [v2 43 (by omega), x2 43 (by omega) (by omega)]; exact y4, fun _ => by rw [e47, tn_nI (by omega)]; exact hK⟩, hK, td s4 c40⟩
