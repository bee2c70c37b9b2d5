/-! the years -/
def E12 (cs st : St) : Prop := ∀ c, ¬ c = 12 → st c = cs c
theorem E12.tr {a b c : St} (h : E12 a b) (h2 : E12 b c) : E12 a c := fun k hk => (h2 k hk).trans (h k hk)
theorem E12.rf (a : St) : E12 a a := fun _ _ => rfl
theorem E12.gr {cs st : St} {a : Nat → Int32} (h : E12 cs st) (hG : GR cs 0 a) : GR st 0 a := hG.congr (fun c _ h12 => h (0 + c) (by omega)) rfl
theorem E12.rel {SO : St → Prop} {cs st ms : St} (h : E12 cs st) (hSO : SOk SO) (hR : Rel SO cs ms) : Rel SO st ms := by
  have hso := hR.2.2.2.2.2
  exact hR.scratch (fun c h1 _ => h c h1) (hSO _ _ (fun c h1 h2 => h c (by omega)) hso) (fun _ _ => rfl) ⟨rfl, rfl⟩
theorem stp_E (cs : St) (f : Nat → Int32) (n : Nat) : E12 cs (stp cs f n) := fun _ h => stp_ne _ _ _ h
theorem loopE {β σ : Type} {a : Nat → Int32} (L : Nat → σ → Int32 → St → Option β) (K : σ → St → Option β) (n : Nat) (F : Nat → σ) (hstep : ∀ i fuel st, i < n → GR st 0 a → ∃ st', L (fuel + 1) (F i) (nI i) st = L fuel (F (i + 1)) (nI (i + 1)) st' ∧ E12 st st') (hend : ∀ fuel st, GR st 0 a → L (fuel + 1) (F n) (nI n) st = K (F n) st) : ∀ d i fuel st, i + d = n → d < fuel → GR st 0 a → ∃ st', L fuel (F i) (nI i) st = K (F n) st' ∧ E12 st st' := by
  intro d
  induction d with
  | zero =>
    intro i fuel st h1 h2 hG
    obtain ⟨fuel, rfl⟩ : ∃ f, fuel = f + 1 := ⟨fuel - 1, by omega⟩
    have : i = n := by omega
    subst this
    exact ⟨st, hend fuel st hG, E12.rf st⟩
  | succ d ih =>
    intro i fuel st h1 h2 hG
    obtain ⟨fuel, rfl⟩ : ∃ f, fuel = f + 1 := ⟨fuel - 1, by omega⟩
    obtain ⟨st', e, hE⟩ := hstep i fuel st (by omega) hG
    obtain ⟨st2, e2, hE2⟩ := ih (i + 1) fuel st' (by omega) (by omega) (hE.gr hG)
    exact ⟨st2, e.trans e2, hE.tr hE2⟩
def cuF (a : Nat → Int32) (n : Nat) : Nat → Nat := fun g => cuB a g n
theorem later_c {cs ms : St} {N n w k : Nat} (hG : GR cs 0 (ms 0)) (hO : GO n w (ms 0)) (hN : 100 ≤ N) (hk : k < n) : f_X2_laterThan N cs (nI k) = some (nI (cl (cuF (ms 0) n) n (cuF (ms 0) n k)), stp cs (fun g => nI (cuF (ms 0) n g)) n) := by
  have hn := hO.1
  have e0 : cs 13 0 = nI n := hG.1.trans hO.2.2.1
  have hel : ∀ g, g < n → cuF (ms 0) n g < 2 ^ n := fun g hg => bs_lt _ n
  unfold f_X2_laterThan
  have h := loopF (fun fuel s i => f_X2_laterThan_L2 N (nI k) (fun a_4 st_5 => ck 10 (nI k) fun j_6 => bd1 (f_X2_reachedFrom N st_5 (st_5 12 j_6)) fun r_8 => some (r_8, st_5)) fuel i s) (fun s => ck 10 (nI k) fun j_6 => bd1 (f_X2_reachedFrom N s (s 12 j_6)) fun r_8 => some (r_8, s)) n (fun i => stp cs (fun g => nI (cuF (ms 0) n g)) i) (fun i fuel hi => ?_) (fun fuel => ?_) n 0 N (by omega) (by omega)
  · have h' : f_X2_laterThan_L2 N (nI k) (fun a_4 st_5 => ck 10 (nI k) fun j_6 => bd1 (f_X2_reachedFrom N st_5 (st_5 12 j_6)) fun r_8 => some (r_8, st_5)) N 0 cs = ck 10 (nI k) fun j_6 => bd1 (f_X2_reachedFrom N (stp cs (fun g => nI (cuF (ms 0) n g)) n) (stp cs (fun g => nI (cuF (ms 0) n g)) n 12 j_6)) fun r_8 => some (r_8, stp cs (fun g => nI (cuF (ms 0) n g)) n) := by
      have q := h
      simp only [stp_0] at q
      exact q
    rw [h', ck_nI (by omega) (by omega), stp_at _ _ hk, reach_c (cuF (ms 0) n) hN hn (by rw [stp_ne _ _ _ (by omega)]; exact e0) (fun g hg => stp_at _ _ hg) (hel k hk) hel, bd1_s]
  · show f_X2_laterThan_L2 N (nI k) _ (fuel + 1) (nI i) _ = _
    have hG' : GR (stp cs (fun g => nI (cuF (ms 0) n g)) i) 0 (ms 0) := (stp_E cs _ i).gr hG
    rw [f_X2_laterThan_L2, stp_ne _ _ _ (show ¬ 13 = 12 by omega), e0, if_neg (nI_ge hi (by omega)), cutters_c hG' hO hN hi, bd1_s, sto_nI (by omega) (by omega), nI_1]
    have q := stp_s cs (fun g => nI (cuF (ms 0) n g)) i
    have q' : sU (stp cs (fun g => nI (cuF (ms 0) n g)) i) 12 i (nI (cuB (ms 0) i n)) = stp cs (fun g => nI (cuF (ms 0) n g)) (i + 1) := q
    rw [q']
  · show f_X2_laterThan_L2 N (nI k) _ (fuel + 1) (nI n) _ = _
    rw [f_X2_laterThan_L2, stp_ne _ _ _ (show ¬ 13 = 12 by omega), e0, if_pos (nI_le (Nat.le_refl n) (by omega))]
/-- what is above is what has it below -/
theorem dual {a : Nat → Int32} {n w i g : Nat} (hO : GO n w a) (hi : i < n) (hg : g < n) : (cl (cuF a n) n (cuF a n i)).testBit g = (cl (cN a) n (cN a g)).testBit i := by
  have hel : ∀ g, g < n → cN a g < 2 ^ n := fun g hg => hO.cN_lt hg
  have hel2 : ∀ g, g < n → cuF a n g < 2 ^ n := fun g hg => bs_lt _ n
  have cb : ∀ x y, y < n → (cuF a n x).testBit y = (cN a y).testBit x := fun x y hy => by
    show (bs _ n).testBit y = _
    rw [bs_bit, decide_eq_true hy]; rfl
  have cb2 : ∀ x y, (cuF a n x).testBit y = true → y < n := fun x y h => by
    rcases Nat.lt_or_ge y n with q | q
    · exact q
    · rw [bit_lt (show cuF a n x < 2 ^ n from bs_lt _ n) q] at h; cases h
  have fwd : (cl (cuF a n) n (cuF a n i)).testBit g = true → (cl (cN a) n (cN a g)).testBit i = true := by
    intro h
    have hs : sub (cl (cuF a n) n (cuF a n i)) (bs (fun y => (cl (cN a) n (cN a y)).testBit i) n) := by
      refine cl_le _ _ _ _ (fun y hy => ?_) (fun x hx hxt y hy => ?_)
      · have hyn := cb2 _ _ hy
        rw [cb _ _ hyn] at hy
        rw [bs_bit, decide_eq_true hyn]
        exact cl_ge _ _ _ _ hy
      · have hyn := cb2 _ _ hy
        rw [cb _ _ hyn] at hy
        rw [bs_bit, decide_eq_true hx] at hxt
        rw [bs_bit, decide_eq_true hyn]
        have hx2 : (cl (cN a) n (cN a x)).testBit i = true := hxt
        show (cl (cN a) n (cN a y)).testBit i = true
        exact cl_le (cN a) n (cN a x) _ (cl_in (hel y hyn) hel hx (cl_ge _ _ _ _ hy)) (fun z hz hb => cl_in (hel y hyn) hel hz hb) i hx2
    have := hs g h
    rw [bs_bit, decide_eq_true hg] at this
    exact this
  have bwd : (cl (cuF a n) n (cuF a n i)).testBit g = false → (cl (cN a) n (cN a g)).testBit i = false := by
    intro h
    have key : ∀ x, x < n → (cl (cuF a n) n (cuF a n i)).testBit x = false → sub (cN a x) (bs (fun y => !((cl (cuF a n) n (cuF a n i)).testBit y) && !(decide (y = i))) n) := by
      intro x hx hxf y hy
      have hyn : y < n := by
        rcases Nat.lt_or_ge y n with q | q
        · exact q
        · rw [bit_lt (hel x hx) q] at hy; cases hy
      rw [bs_bit, decide_eq_true hyn]
      have h1 : (cl (cuF a n) n (cuF a n i)).testBit y = false := by
        cases q : (cl (cuF a n) n (cuF a n i)).testBit y
        · rfl
        · have := cl_in (hel2 i hi) hel2 hyn q x (by rw [cb _ _ hx]; exact hy)
          rw [this] at hxf; cases hxf
      have h2 : ¬ y = i := by
        intro q
        subst q
        have := cl_ge (cuF a n) n (cuF a n y) x (by rw [cb _ _ hx]; exact hy)
        rw [this] at hxf; cases hxf
      rw [h1, decide_eq_false h2]; rfl
    have hs : sub (cl (cN a) n (cN a g)) (bs (fun y => !((cl (cuF a n) n (cuF a n i)).testBit y) && !(decide (y = i))) n) := by
      refine cl_le _ _ _ _ (key g hg h) (fun x hx hxt => ?_)
      rw [bs_bit, decide_eq_true hx] at hxt
      refine key x hx ?_
      cases q : (cl (cuF a n) n (cuF a n i)).testBit x
      · rfl
      · rw [q] at hxt; cases hxt
    cases q : (cl (cN a) n (cN a g)).testBit i
    · rfl
    · have := hs i q
      rw [bs_bit, decide_eq_true rfl, Bool.not_true, Bool.and_false, Bool.and_false] at this
      cases this
  cases h : (cl (cuF a n) n (cuF a n i)).testBit g
  · exact (bwd h).symm
  · exact (fwd h).symm
/-! the least and the greatest -/
def fo (op : Int32 → Int32 → Int32) (p : Nat → Bool) (f : Nat → Int32) (s : Int32) : Nat → Int32
  | 0 => s
  | i + 1 => if p i then op (fo op p f s i) (f i) else fo op p f s i
def leS (up : Bool) (a b : Int32) : Prop := if up then a.toInt ≤ b.toInt else b.toInt ≤ a.toInt
def opS (up : Bool) : Int32 → Int32 → Int32 := if up then imax else imin
theorem leS_rf (up : Bool) (a : Int32) : leS up a a := by cases up <;> exact Int.le_refl _
theorem leS_tr {up : Bool} {a b c : Int32} (h : leS up a b) (h2 : leS up b c) : leS up a c := by
  cases up
  · exact Int.le_trans h2 h
  · exact Int.le_trans h h2
theorem leS_eq {up : Bool} {a b : Int32} (h : leS up a b) (h2 : leS up b a) : a = b := by
  apply Int32.toInt_inj.mp
  cases up
  · exact Int.le_antisymm h2 h
  · exact Int.le_antisymm h h2
theorem opS_l (up : Bool) (a b : Int32) : leS up a (opS up a b) := by
  cases up
  · show (imin a b).toInt ≤ a.toInt
    unfold imin
    split
    · rename_i h; rw [i32_lt] at h; omega
    · omega
  · show a.toInt ≤ (imax a b).toInt
    unfold imax
    split
    · rename_i h; rw [i32_lt] at h; omega
    · omega
theorem opS_r (up : Bool) (a b : Int32) : leS up b (opS up a b) := by
  cases up
  · show (imin a b).toInt ≤ b.toInt
    unfold imin
    split
    · omega
    · rename_i h; rw [i32_lt] at h; omega
  · show b.toInt ≤ (imax a b).toInt
    unfold imax
    split
    · omega
    · rename_i h; rw [i32_lt] at h; omega
theorem opS_or (up : Bool) (a b : Int32) : opS up a b = a ∨ opS up a b = b := by
  cases up
  · show imin a b = a ∨ imin a b = b
    unfold imin
    split
    · exact Or.inr rfl
    · exact Or.inl rfl
  · show imax a b = a ∨ imax a b = b
    unfold imax
    split
    · exact Or.inr rfl
    · exact Or.inl rfl
theorem fo_spec (up : Bool) (p : Nat → Bool) (f : Nat → Int32) (s : Int32) : ∀ n, leS up s (fo (opS up) p f s n) ∧ (∀ g, g < n → p g = true → leS up (f g) (fo (opS up) p f s n)) ∧ (fo (opS up) p f s n = s ∨ ∃ g, g < n ∧ p g = true ∧ fo (opS up) p f s n = f g) := by
  intro n
  induction n with
  | zero => exact ⟨leS_rf up s, fun g hg => by omega, Or.inl rfl⟩
  | succ n ih =>
    obtain ⟨h1, h2, h3⟩ := ih
    cases hp : p n
    · have e : fo (opS up) p f s (n + 1) = fo (opS up) p f s n := by rw [fo, hp]; rfl
      rw [e]
      refine ⟨h1, fun g hg hpg => ?_, ?_⟩
      · by_cases q : g = n
        · subst q; rw [hp] at hpg; cases hpg
        · exact h2 g (by omega) hpg
      · rcases h3 with h3 | ⟨g, hg, h4, h5⟩
        · exact Or.inl h3
        · exact Or.inr ⟨g, by omega, h4, h5⟩
    · have e : fo (opS up) p f s (n + 1) = opS up (fo (opS up) p f s n) (f n) := by rw [fo, hp]; rfl
      rw [e]
      refine ⟨leS_tr h1 (opS_l _ _ _), fun g hg hpg => ?_, ?_⟩
      · by_cases q : g = n
        · subst q; exact opS_r _ _ _
        · exact leS_tr (h2 g (by omega) hpg) (opS_l _ _ _)
      · rcases opS_or up (fo (opS up) p f s n) (f n) with q | q
        · rw [q]
          rcases h3 with h3 | ⟨g, hg, h4, h5⟩
          · exact Or.inl h3
          · exact Or.inr ⟨g, by omega, h4, h5⟩
        · rw [q]; exact Or.inr ⟨n, by omega, hp, rfl⟩
/-- begun with itself, or with the end of all years -/
theorem fo_with (up : Bool) {p q : Nat → Bool} {f : Nat → Int32} {s : Int32} {i n : Nat} (hi : i < n) (hs : leS up s (f i)) (hq : ∀ g, g < n → q g = (p g || decide (g = i))) : fo (opS up) q f s n = fo (opS up) p f (f i) n := by
  obtain ⟨a1, a2, a3⟩ := fo_spec up q f s n
  obtain ⟨b1, b2, b3⟩ := fo_spec up p f (f i) n
  have qi : q i = true := by rw [hq i hi, decide_eq_true rfl, Bool.or_true]
  apply leS_eq (up := up)
  · rcases a3 with h | ⟨g, hg, h1, h2⟩
    · rw [h]; exact leS_tr hs b1
    · rw [h2]
      rw [hq g hg, Bool.or_eq_true, decide_eq_true_eq] at h1
      rcases h1 with h1 | h1
      · exact b2 g hg h1
      · subst h1; exact b1
  · rcases b3 with h | ⟨g, hg, h1, h2⟩
    · rw [h]; exact a2 i hi qi
    · rw [h2]; exact a2 g hg (by rw [hq g hg, h1]; rfl)
theorem fo_congr {op : Int32 → Int32 → Int32} {p q : Nat → Bool} {f h : Nat → Int32} {s : Int32} : ∀ n, (∀ g, g < n → p g = q g) → (∀ g, g < n → f g = h g) → fo op p f s n = fo op q h s n := by
  intro n
  induction n with
  | zero => intro _ _; rfl
  | succ n ih =>
    intro h1 h2
    rw [fo, fo, ih (fun g hg => h1 g (by omega)) (fun g hg => h2 g (by omega)), h1 n (by omega), h2 n (by omega)]
def eaN (a : Nat → Int32) (n i : Nat) : Int32 := fo (opS true) (fun g => (cl (cN a) n (cN a i)).testBit g) (fun g => a (42 + g)) (a (42 + i)) n
def laN (a : Nat → Int32) (n i : Nat) : Int32 := fo (opS false) (fun g => (cl (cN a) n (cN a g)).testBit i) (fun g => a (52 + g)) (a (52 + i)) n
theorem GO.from {n w : Nat} {a : Nat → Int32} (h : GO n w a) {k : Nat} (hk : k < n) : -5000 ≤ (a (42 + k)).toInt ∧ (a (42 + k)).toInt ≤ 5000 := (h.at 4 (by omega) hk).2.2.2.2.1 rfl
theorem GO.to {n w : Nat} {a : Nat → Int32} (h : GO n w a) {k : Nat} (hk : k < n) : -5000 ≤ (a (52 + k)).toInt ∧ (a (52 + k)).toInt ≤ 5000 := (h.at 5 (by omega) hk).2.2.2.2.2.1 rfl
theorem ea_rng {n w i : Nat} {a : Nat → Int32} (hO : GO n w a) (hi : i < n) : -5000 ≤ (eaN a n i).toInt ∧ (eaN a n i).toInt ≤ 5000 := by
  obtain ⟨-, -, h⟩ := fo_spec true (fun g => (cl (cN a) n (cN a i)).testBit g) (fun g => a (42 + g)) (a (42 + i)) n
  unfold eaN
  rcases h with h | ⟨g, hg, -, h⟩
  · rw [h]; exact hO.from hi
  · rw [h]; exact hO.from hg
theorem la_rng {n w i : Nat} {a : Nat → Int32} (hO : GO n w a) (hi : i < n) : -5000 ≤ (laN a n i).toInt ∧ (laN a n i).toInt ≤ 5000 := by
  obtain ⟨-, -, h⟩ := fo_spec false (fun g => (cl (cN a) n (cN a g)).testBit i) (fun g => a (52 + g)) (a (52 + i)) n
  unfold laN
  rcases h with h | ⟨g, hg, -, h⟩
  · rw [h]; exact hO.to hi
  · rw [h]; exact hO.to hg
theorem earliest_c {cs ms : St} {N n w i : Nat} (hG : GR cs 0 (ms 0)) (hO : GO n w (ms 0)) (hN : 100 ≤ N) (hi : i < n) : ∃ st', f_X2_earliestOf N cs (nI i) = some (eaN (ms 0) n i, st') ∧ E12 cs st' := by
  have hn := hO.1
  have hE := stp_E cs (cs 6) n
  have hG' := hE.gr hG
  have e0 : stp cs (cs 6) n 13 0 = nI n := hG'.1.trans hO.2.2.1
  refine ⟨stp cs (cs 6) n, ?_, hE⟩
  unfold f_X2_earliestOf
  rw [earlier_c hG hO hN hi, bd2_s, bnd_s, nI_bit (by omega), nI_or]
  generalize hst : stp cs (cs 6) n = st at *
  have hk := loopF (fun fuel s j => f_X2_earliestOf_L17 N (nI (cl (cN (ms 0)) n (cN (ms 0) i) ||| 2 ^ i)) st (fun a_10 _ => some (a_10, st)) fuel s j) (fun s => some (s, st)) n (fun j => fo (opS true) (fun g => (cl (cN (ms 0)) n (cN (ms 0) i) ||| 2 ^ i).testBit g) (fun g => ms 0 (42 + g)) (-5000) j) (fun j fuel hj => ?_) (fun fuel => ?_) n 0 N (by omega) (by omega)
  · refine Eq.trans hk ?_
    rw [fo_with true (p := fun g => (cl (cN (ms 0)) n (cN (ms 0) i)).testBit g) hi ?_ ?_]
    · rfl
    · show (-5000 : Int32).toInt ≤ (ms 0 (42 + i)).toInt
      exact (hO.from hi).1
    · intro g hg
      rw [Nat.testBit_or, Nat.testBit_two_pow]
      by_cases q : g = i
      · subst q; simp
      · rw [decide_eq_false q, decide_eq_false (fun z => q z.symm)]
  · show f_X2_earliestOf_L17 N _ st _ (fuel + 1) _ _ = f_X2_earliestOf_L17 N _ st _ fuel (if (cl (cN (ms 0)) n (cN (ms 0) i) ||| 2 ^ i).testBit j then opS true _ (ms 0 (42 + j)) else _) _
    rw [f_X2_earliestOf_L17, e0, if_neg (nI_ge hj (by omega)), bnd_s, isIn_bt _ (by omega), nI_bt (by omega), nI_1]
    cases (cl (cN (ms 0)) n (cN (ms 0) i) ||| 2 ^ i).testBit j
    · simp only [b2i_f, if_true]; rfl
    · simp only [b2i_t, if_false]
      rw [ck_nI (by omega) (by omega), bnd_s, show st 4 j = ms 0 (42 + j) from hG'.at 4 (by omega) (by omega)]; rfl
  · show f_X2_earliestOf_L17 N _ st _ (fuel + 1) _ _ = _
    rw [f_X2_earliestOf_L17, e0, if_pos (nI_le (Nat.le_refl n) (by omega))]
theorem latest_c {cs ms : St} {N n w i : Nat} (hG : GR cs 0 (ms 0)) (hO : GO n w (ms 0)) (hN : 100 ≤ N) (hi : i < n) : ∃ st', f_X2_latestOf N cs (nI i) = some (laN (ms 0) n i, st') ∧ E12 cs st' := by
  have hn := hO.1
  have hE := stp_E cs (fun g => nI (cuF (ms 0) n g)) n
  have hG' := hE.gr hG
  have e0 : stp cs (fun g => nI (cuF (ms 0) n g)) n 13 0 = nI n := hG'.1.trans hO.2.2.1
  refine ⟨stp cs (fun g => nI (cuF (ms 0) n g)) n, ?_, hE⟩
  unfold f_X2_latestOf
  rw [later_c hG hO hN hi, bd2_s, bnd_s, nI_bit (by omega), nI_or]
  generalize hst : stp cs (fun g => nI (cuF (ms 0) n g)) n = st at *
  have hk := loopF (fun fuel s j => f_X2_latestOf_L17 N (nI (cl (cuF (ms 0) n) n (cuF (ms 0) n i) ||| 2 ^ i)) st (fun a_10 _ => some (a_10, st)) fuel s j) (fun s => some (s, st)) n (fun j => fo (opS false) (fun g => (cl (cuF (ms 0) n) n (cuF (ms 0) n i) ||| 2 ^ i).testBit g) (fun g => ms 0 (52 + g)) 5000 j) (fun j fuel hj => ?_) (fun fuel => ?_) n 0 N (by omega) (by omega)
  · refine Eq.trans hk ?_
    rw [fo_with false (p := fun g => (cl (cN (ms 0)) n (cN (ms 0) g)).testBit i) hi ?_ ?_]
    · rfl
    · show (ms 0 (52 + i)).toInt ≤ (5000 : Int32).toInt
      exact (hO.to hi).2
    · intro g hg
      rw [Nat.testBit_or, Nat.testBit_two_pow, dual hO hi hg]
      by_cases q : g = i
      · subst q; simp
      · rw [decide_eq_false q, decide_eq_false (fun z => q z.symm)]
  · show f_X2_latestOf_L17 N _ st _ (fuel + 1) _ _ = f_X2_latestOf_L17 N _ st _ fuel (if (cl (cuF (ms 0) n) n (cuF (ms 0) n i) ||| 2 ^ i).testBit j then opS false _ (ms 0 (52 + j)) else _) _
    rw [f_X2_latestOf_L17, e0, if_neg (nI_ge hj (by omega)), bnd_s, isIn_bt _ (by omega), nI_bt (by omega), nI_1]
    cases (cl (cuF (ms 0) n) n (cuF (ms 0) n i) ||| 2 ^ i).testBit j
    · simp only [b2i_f, if_true]; rfl
    · simp only [b2i_t, if_false]
      rw [ck_nI (by omega) (by omega), bnd_s, show st 5 j = ms 0 (52 + j) from hG'.at 5 (by omega) (by omega)]; rfl
  · show f_X2_latestOf_L17 N _ st _ (fuel + 1) _ _ = _
    rw [f_X2_latestOf_L17, e0, if_pos (nI_le (Nat.le_refl n) (by omega))]
theorem year_m0 {ms : St} {N n w i : Nat} (hO : GO n w (ms 0)) (hN : 100 ≤ N) (hi : i < n) : f_X6_yearOf N ms (nI i) false = some (eaN (ms 0) n i) := by
  have hn := hO.1
  have e0 : ms 0 0 = nI n := hO.2.2.1
  unfold f_X6_yearOf
  simp only [b2i_f, if_true]
  rw [ck_42 (by omega) (by omega), bnd_s, below_m hO hN hi, bd1_s]
  refine loopF (fun fuel s j => f_X6_yearOf_L29 N (nI i) false (nI (cl (cN (ms 0)) n (cN (ms 0) i))) ms (fun a_29 _ => some a_29) fuel s j) (fun s => some s) n (fun j => fo (opS true) (fun g => (cl (cN (ms 0)) n (cN (ms 0) i)).testBit g) (fun g => ms 0 (42 + g)) (ms 0 (42 + i)) j) (fun j fuel hj => ?_) (fun fuel => ?_) n 0 N (by omega) (by omega)
  · show f_X6_yearOf_L29 N _ _ _ ms _ (fuel + 1) _ _ = f_X6_yearOf_L29 N _ _ _ ms _ fuel (if (cl (cN (ms 0)) n (cN (ms 0) i)).testBit j then opS true _ (ms 0 (42 + j)) else _) _
    rw [f_X6_yearOf_L29, e0, if_neg (nI_ge hj (by omega))]
    simp only [b2i_f, if_true, bnd_s]
    rw [b_tst _ (by omega), nI_bt (by omega), nI_1, ck_42 (by omega) (by omega)]
    cases (cl (cN (ms 0)) n (cN (ms 0) i)).testBit j
    · rw [if_neg (show ¬ b2i false = (1 : Int32) by decide)]; rfl
    · rw [if_pos (show b2i true = (1 : Int32) by decide)]; rfl
  · show f_X6_yearOf_L29 N _ _ _ ms _ (fuel + 1) _ _ = _
    rw [f_X6_yearOf_L29, e0, if_pos (nI_le (Nat.le_refl n) (by omega))]
theorem year_m1 {ms : St} {N n w i : Nat} (hO : GO n w (ms 0)) (hN : 100 ≤ N) (hi : i < n) : f_X6_yearOf N ms (nI i) true = some (laN (ms 0) n i) := by
  have hn := hO.1
  have e0 : ms 0 0 = nI n := hO.2.2.1
  unfold f_X6_yearOf
  simp only [b2i_t, if_false]
  rw [ck_52 (by omega) (by omega), bnd_s, below_m hO hN hi, bd1_s]
  refine loopF (fun fuel s j => f_X6_yearOf_L29 N (nI i) true (nI (cl (cN (ms 0)) n (cN (ms 0) i))) ms (fun a_29 _ => some a_29) fuel s j) (fun s => some s) n (fun j => fo (opS false) (fun g => (cl (cN (ms 0)) n (cN (ms 0) g)).testBit i) (fun g => ms 0 (52 + g)) (ms 0 (52 + i)) j) (fun j fuel hj => ?_) (fun fuel => ?_) n 0 N (by omega) (by omega)
  · show f_X6_yearOf_L29 N _ _ _ ms _ (fuel + 1) _ _ = f_X6_yearOf_L29 N _ _ _ ms _ fuel (if (cl (cN (ms 0)) n (cN (ms 0) j)).testBit i then opS false _ (ms 0 (52 + j)) else _) _
    rw [f_X6_yearOf_L29, e0, if_neg (nI_ge hj (by omega))]
    simp only [b2i_t, if_false, bnd_s]
    rw [below_m hO hN hj, bd1_s, b_tst _ (by omega), nI_bt (by omega), nI_1, ck_52 (by omega) (by omega)]
    cases (cl (cN (ms 0)) n (cN (ms 0) j)).testBit i
    · rw [if_neg (show ¬ b2i false = (1 : Int32) by decide)]; rfl
    · rw [if_pos (show b2i true = (1 : Int32) by decide)]; rfl
  · show f_X6_yearOf_L29 N _ _ _ ms _ (fuel + 1) _ _ = _
    rw [f_X6_yearOf_L29, e0, if_pos (nI_le (Nat.le_refl n) (by omega))]
theorem s_year {SO : St → Prop} (hSO : SOk SO) {N : Nat} (hN : 100 ≤ N) : ∀ cs ms, Rel SO cs ms → ∀ (a1 : Int32) (a2 : Bool), StepI (Rel SO) (f_X5_year N cs a1 a2) (f_X6_year N ms a1 a2) := by
  intro cs ms hR a1 a2
  obtain ⟨hG, ⟨n, w, hO⟩, -⟩ := id hR
  have hn := hO.1
  unfold f_X5_year f_X6_year
  simp only [bnd_s]
  rcases gr_cases hG.1 hO.2.2.1 hn a1 with ⟨q1, q2⟩ | ⟨q1, q2, i, hi, rfl⟩
  · rw [q1, q2]; simp only [b2i_f, if_true]; exact fin_step hSO hR _
  · rw [q1, q2]; simp only [b2i_t, if_false]
    cases a2
    · obtain ⟨st', e, hE⟩ := earliest_c hG hO hN hi
      simp only [b2i_f, if_true]
      rw [e, year_m0 hO hN hi, bd1_s, bd2_s]
      exact ⟨_, _, _, rfl, rfl, hE.rel hSO hR⟩
    · obtain ⟨st', e, hE⟩ := latest_c hG hO hN hi
      simp only [b2i_t, if_false]
      rw [e, year_m1 hO hN hi, bd1_s, bd2_s]
      exact ⟨_, _, _, rfl, rfl, hE.rel hSO hR⟩
theorem s_wrong {SO : St → Prop} (hSO : SOk SO) {N : Nat} (hN : 100 ≤ N) : ∀ cs ms, Rel SO cs ms → StepR (Rel SO) ms (f_X5_wrong N cs) (f_X6_wrong N ms) := by
  intro cs ms hR
  obtain ⟨hG, ⟨n, w, hO⟩, -⟩ := id hR
  have hn := hO.1
  have e0 : ms 0 0 = nI n := hO.2.2.1
  unfold f_X5_wrong f_X6_wrong
  have key : ∀ d i fuel st, i + d = n → d < fuel → GR st 0 (ms 0) → ∃ r st', f_X5_wrong_L2 N (fun a_9 st_10 => some (-1, st_10)) fuel (nI i) st = some (r, st') ∧ f_X6_wrong_L2 N ms (fun a_7 => some (-1 : Int32)) fuel (nI i) = some r ∧ E12 st st' := by
    intro d
    induction d with
    | zero =>
      intro i fuel st h1 h2 hG
      obtain ⟨fuel, rfl⟩ : ∃ f, fuel = f + 1 := ⟨fuel - 1, by omega⟩
      have : i = n := by omega
      subst this
      have e1 : st 13 0 = nI i := hG.1.trans e0
      rw [f_X5_wrong_L2, f_X6_wrong_L2, e0, e1, if_pos (nI_le (Nat.le_refl i) (by omega)), if_pos (nI_le (Nat.le_refl i) (by omega))]
      exact ⟨_, _, rfl, rfl, E12.rf st⟩
    | succ d ih =>
      intro i fuel st h1 h2 hG
      obtain ⟨fuel, rfl⟩ : ∃ f, fuel = f + 1 := ⟨fuel - 1, by omega⟩
      have hi : i < n := by omega
      have e1 : st 13 0 = nI n := hG.1.trans e0
      obtain ⟨s1, q1, E1⟩ := earliest_c hG hO hN hi
      obtain ⟨s2, q2, E2⟩ := latest_c (E1.gr hG) hO hN hi
      rw [f_X5_wrong_L2, f_X6_wrong_L2, e0, e1, if_neg (nI_ge hi (by omega)), if_neg (nI_ge hi (by omega)), q1, bd2_s, q2, bd2_s, year_m0 hO hN hi, year_m1 hO hN hi, bd1_s, bd1_s, nI_1]
      by_cases hc : eaN (ms 0) n i ≤ laN (ms 0) n i
      · rw [if_pos hc, if_pos hc]
        obtain ⟨r, s3, z1, z2, E3⟩ := ih (i + 1) fuel s2 (by omega) (by omega) ((E1.tr E2).gr hG)
        exact ⟨r, s3, z1, z2, (E1.tr E2).tr E3⟩
      · rw [if_neg hc, if_neg hc]
        exact ⟨_, _, rfl, rfl, E1.tr E2⟩
  obtain ⟨r, st', z1, z2, hE⟩ := key n 0 N cs (by omega) (by omega) hG
  exact ⟨r, st', z1, z2, hE.rel hSO hR⟩
def inB (a : Nat → Int32) (n : Nat) (x : Int32) (g : Nat) : Bool := f_X6_within x (eaN a n g) (laN a n g)
theorem s_in {SO : St → Prop} (hSO : SOk SO) {N : Nat} (hN : 100 ≤ N) : ∀ cs ms, Rel SO cs ms → ∀ (a1 : Int32), StepI (Rel SO) (f_X5_in N cs a1) (f_X6_in N ms a1) := by
  intro cs ms hR a1
  obtain ⟨hG, ⟨n, w, hO⟩, -⟩ := id hR
  have hn := hO.1
  have e0 : ms 0 0 = nI n := hO.2.2.1
  unfold f_X5_in f_X6_in
  simp only [bnd_s, isYear_w]
  cases f_X6_isYear a1
  · simp only [b2i_f, if_true]; exact fin_step hSO hR _
  · simp only [b2i_t, if_false]
    have hm : f_X6_in_L18 N a1 ms (fun a_12 _ => some (a_12, ms)) N 0 0 = some (cntI (inB (ms 0) n a1) n, ms) := by
      refine loopF (fun fuel s j => f_X6_in_L18 N a1 ms (fun a_12 _ => some (a_12, ms)) fuel s j) (fun s => some (s, ms)) n (fun j => cntI (inB (ms 0) n a1) j) (fun j fuel hj => ?_) (fun fuel => ?_) n 0 N (by omega) (by omega)
      · show f_X6_in_L18 N a1 ms _ (fuel + 1) _ _ = f_X6_in_L18 N a1 ms _ fuel (if inB (ms 0) n a1 j then cntI (inB (ms 0) n a1) j + 1 else cntI (inB (ms 0) n a1) j) _
        rw [f_X6_in_L18, e0, if_neg (nI_ge hj (by omega)), year_m0 hO hN hj, year_m1 hO hN hj, bd1_s, bd1_s, nI_1]
        simp only [bnd_s, add_z]
        show (if b2i (inB (ms 0) n a1 j) = 0 then _ else _) = _
        cases inB (ms 0) n a1 j
        · simp only [b2i_f, if_true]; rfl
        · simp only [b2i_t, if_false]; rfl
      · show f_X6_in_L18 N a1 ms _ (fuel + 1) _ _ = _
        rw [f_X6_in_L18, e0, if_pos (nI_le (Nat.le_refl n) (by omega))]
    obtain ⟨st', hc, hE⟩ := loopE (a := ms 0) (fun fuel s j st => f_X5_in_L18 N a1 (fun a_12 _ st_14 => some (a_12, st_14)) fuel s j st) (fun s st => some (s, st)) n (fun j => cntI (inB (ms 0) n a1) j) (fun j fuel st hj hG => by
      have e1 : st 13 0 = nI n := hG.1.trans e0
      obtain ⟨s1, q1, E1⟩ := earliest_c hG hO hN hj
      obtain ⟨s2, q2, E2⟩ := latest_c (E1.gr hG) hO hN hj
      show ∃ st', f_X5_in_L18 N a1 _ (fuel + 1) _ _ st = f_X5_in_L18 N a1 _ fuel (if inB (ms 0) n a1 j then cntI (inB (ms 0) n a1) j + 1 else cntI (inB (ms 0) n a1) j) _ st' ∧ E12 st st'
      rw [f_X5_in_L18, e1, if_neg (nI_ge hj (by omega)), q1, bd2_s, nI_1]
      unfold inB f_X6_within
      by_cases c1 : a1 < eaN (ms 0) n j
      · rw [if_pos c1, if_pos c1]
        exact ⟨s1, rfl, E1⟩
      · rw [if_neg c1, if_neg c1, q2, bd2_s]
        by_cases c2 : laN (ms 0) n j < a1
        · rw [if_pos c2, if_pos c2]
          exact ⟨s2, rfl, E1.tr E2⟩
        · rw [if_neg c2, if_neg c2]
          exact ⟨s2, rfl, E1.tr E2⟩) (fun fuel st hG => by
      have e1 : st 13 0 = nI n := hG.1.trans e0
      show f_X5_in_L18 N a1 _ (fuel + 1) _ _ st = _
      rw [f_X5_in_L18, e1, if_pos (nI_le (Nat.le_refl n) (by omega))]) n 0 N cs (by omega) (by omega) hG
    refine ⟨_, st', ms, hc, hm, hE.rel hSO hR⟩
