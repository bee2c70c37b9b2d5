/-! ===== Int32 by its bits: bt x i ===== -/
def bt (x : Int32) (i : Nat) : Bool := x.toBitVec.getLsbD i
theorem b_ext {x y : Int32} (h : ∀ i, i < 32 → bt x i = bt y i) : x = y := Int32.toBitVec_inj.mp (BitVec.eq_of_getLsbD_eq (fun i hi => h i hi))
theorem b_or (x y : Int32) (i : Nat) : bt (x ||| y) i = (bt x i || bt y i) := by unfold bt; rw [Int32.toBitVec_or, BitVec.getLsbD_or]
theorem b_and (x y : Int32) (i : Nat) : bt (x &&& y) i = (bt x i && bt y i) := by unfold bt; rw [Int32.toBitVec_and, BitVec.getLsbD_and]
theorem b_xor (x y : Int32) (i : Nat) : bt (x ^^^ y) i = (bt x i ^^ bt y i) := by unfold bt; rw [Int32.toBitVec_xor, BitVec.getLsbD_xor]
theorem b_big {x : Int32} {i : Nat} (h : 32 ≤ i) : bt x i = false := BitVec.getLsbD_of_ge _ _ h
theorem b_255 (i : Nat) : bt 255 i = decide (i < 8) := by
  rcases Nat.lt_or_ge i 32 with h | h
  · exact (by decide +kernel : ∀ i, i < 32 → bt 255 i = decide (i < 8)) i h
  · rw [b_big h, decide_eq_false (by omega)]
theorem b_65535 (i : Nat) : bt 65535 i = decide (i < 16) := by
  rcases Nat.lt_or_ge i 32 with h | h
  · exact (by decide +kernel : ∀ i, i < 32 → bt 65535 i = decide (i < 16)) i h
  · rw [b_big h, decide_eq_false (by omega)]
theorem b_m1 : ∀ i, i < 32 → bt (-1) i = true := by decide +kernel
theorem b_0 (i : Nat) : bt 0 i = false := BitVec.getLsbD_zero
theorem s_l : ∀ n, n < 32 → ((nI n &&& 31).toBitVec.smod 32).toNat = n := by decide +kernel
theorem s_u : ∀ n, n < 32 → (((nI n).toUInt32 &&& Int32.toUInt32 31).toBitVec % 32).toNat = n := by decide +kernel
theorem b_shl (n : Nat) (hn : n < 32) (x : Int32) {i : Nat} (hi : i < 32) : bt (x <<< (nI n &&& 31)) i = (decide (n ≤ i) && bt x (i - n)) := by
  unfold bt
  rw [Int32.toBitVec_shiftLeft]
  show (x.toBitVec <<< ((nI n &&& 31).toBitVec.smod 32).toNat).getLsbD i = _
  rw [s_l n hn, BitVec.getLsbD_shiftLeft]
  rcases Nat.lt_or_ge i n with h | h
  · simp [h, Nat.not_le.mpr h]
  · simp [hi, h, Nat.not_lt.mpr h]
theorem b_ushr (n : Nat) (hn : n < 32) (x : Int32) (i : Nat) : bt ((x.toUInt32 >>> ((nI n).toUInt32 &&& Int32.toUInt32 31)).toInt32) i = bt x (n + i) := by
  show (x.toUInt32 >>> ((nI n).toUInt32 &&& Int32.toUInt32 31)).toBitVec.getLsbD i = x.toUInt32.toBitVec.getLsbD (n + i)
  rw [UInt32.toBitVec_shiftRight]
  show (x.toUInt32.toBitVec >>> (((nI n).toUInt32 &&& Int32.toUInt32 31).toBitVec % 32).toNat).getLsbD i = _
  rw [s_u n hn, BitVec.getLsbD_ushiftRight]
theorem b_sshr (n : Nat) (hn : n < 32) (x : Int32) {i : Nat} (hi : i < 32) : bt (x >>> (nI n &&& 31)) i = if n + i < 32 then bt x (n + i) else bt x 31 := by
  unfold bt
  rw [Int32.toBitVec_shiftRight]
  show (x.toBitVec.sshiftRight ((nI n &&& 31).toBitVec.smod 32).toNat).getLsbD i = _
  rw [s_l n hn, BitVec.getLsbD_sshiftRight, BitVec.msb_eq_getLsbD_last]
  simp [hi]
theorem b_shl8 (x : Int32) {i : Nat} (hi : i < 32) : bt (x <<< ((8 : Int32) &&& 31)) i = (decide (8 ≤ i) && bt x (i - 8)) := b_shl 8 (by omega) x hi
theorem b_shl16 (x : Int32) {i : Nat} (hi : i < 32) : bt (x <<< ((16 : Int32) &&& 31)) i = (decide (16 ≤ i) && bt x (i - 16)) := b_shl 16 (by omega) x hi
theorem b_shl24 (x : Int32) {i : Nat} (hi : i < 32) : bt (x <<< ((24 : Int32) &&& 31)) i = (decide (24 ≤ i) && bt x (i - 24)) := b_shl 24 (by omega) x hi
theorem b_sshr8 (x : Int32) {i : Nat} (hi : i < 32) : bt (x >>> ((8 : Int32) &&& 31)) i = if 8 + i < 32 then bt x (8 + i) else bt x 31 := b_sshr 8 (by omega) x hi
/-! ===== own rows on bits ===== -/
theorem b_1 : ∀ i, i < 32 → bt 1 i = decide (i = 0) := by decide +kernel
theorem b2i_bt (b : Bool) {i : Nat} (hi : i < 32) : bt (b2i b) i = (b && decide (i = 0)) := by
  cases b
  · show bt 0 i = _
    rw [b_0]; rfl
  · show bt 1 i = _
    rw [b_1 i hi]; rfl
theorem b_tst (x : Int32) {i : Nat} (hi : i < 32) : (x >>> (nI i &&& 31)) &&& 1 = b2i (bt x i) := by
  apply b_ext
  intro j hj
  rw [b_and, b_sshr i hi x hj, b_1 j hj, b2i_bt _ hj]
  by_cases h : j = 0
  · subst h; simp [hi]
  · simp [h]
theorem b_ush (x : Int32) {i : Nat} (hi : i < 32) : (ush x (nI i)) &&& 1 = b2i (bt x i) := by
  apply b_ext
  intro j hj
  unfold ush
  rw [b_and, b_ushr i hi x j, b_1 j hj, b2i_bt _ hj]
  by_cases h : j = 0
  · subst h; simp
  · simp [h]
theorem b_bit {i j : Nat} (hi : i < 32) (hj : j < 32) : bt ((1 : Int32) <<< (nI i &&& 31)) j = decide (j = i) := by
  rw [b_shl i hi 1 hj, b_1 (j - i) (by omega)]
  by_cases h : j = i
  · subst h; simp
  · rcases Nat.lt_or_ge j i with q | q
    · simp [h, Nat.not_le.mpr q]
    · have : ¬ (j - i = 0) := by omega
      simp [h, this]
theorem b_not (x : Int32) {i : Nat} (hi : i < 32) : bt (x ^^^ (-1)) i = !bt x i := by
  rw [b_xor, b_m1 i hi]; cases bt x i <;> rfl
theorem b_zero (x : Int32) : x = 0 ↔ ∀ i, i < 32 → bt x i = false := by
  constructor
  · intro h i _; rw [h, b_0]
  · intro h; apply b_ext; intro i hi; rw [h i hi, b_0]
theorem b2i_0 (b : Bool) : (b2i b = 0) ↔ b = false := by cases b <;> decide
theorem b2i_1 (b : Bool) : (b2i b = 1) ↔ b = true := by cases b <;> decide
theorem b2i_inj {a b : Bool} : (b2i a = b2i b) ↔ a = b := by cases a <;> cases b <;> decide
theorem b2i_t : (b2i true = 0) = False := eq_false (by decide)
theorem b2i_f : (b2i false = 0) = True := eq_true (by decide)
theorem nI_bt {t : Nat} {i : Nat} (hi : i < 32) : bt (nI t) i = t.testBit i := by
  show (BitVec.ofNat 32 t).getLsbD i = _
  rw [BitVec.getLsbD_ofNat]
  simp [hi]
theorem nI_and (a b : Nat) : nI a &&& nI b = nI (a &&& b) := by
  apply b_ext; intro i hi
  rw [b_and, nI_bt hi, nI_bt hi, nI_bt hi, Nat.testBit_and]
theorem nI_or (a b : Nat) : nI a ||| nI b = nI (a ||| b) := by
  apply b_ext; intro i hi
  rw [b_or, nI_bt hi, nI_bt hi, nI_bt hi, Nat.testBit_or]
theorem nI_bit {i : Nat} (hi : i < 32) : (1 : Int32) <<< (nI i &&& 31) = nI (2 ^ i) := by
  apply b_ext; intro j hj
  rw [b_bit hi hj, nI_bt hj, Nat.testBit_two_pow]
  by_cases h : j = i
  · subst h; simp
  · simp [h, Ne.symm h]
theorem nI_andnot (a b : Nat) : nI a &&& (nI b ^^^ (-1)) = nI (a &&& (a ^^^ (a &&& b))) := by
  apply b_ext; intro i hi
  rw [b_and, b_not _ hi, nI_bt hi, nI_bt hi, nI_bt hi, Nat.testBit_and, Nat.testBit_xor, Nat.testBit_and]
  cases a.testBit i <;> cases b.testBit i <;> rfl
theorem nI_inj {a b : Nat} (ha : a < 2 ^ 31) (hb : b < 2 ^ 31) (h : nI a = nI b) : a = b := (nI_eq ha hb).mp h
theorem lt_pow_of_bits {t m : Nat} (h : ∀ i, m ≤ i → t.testBit i = false) : t < 2 ^ m := by
  rcases Nat.lt_or_ge t (2 ^ m) with q | q
  · exact q
  · obtain ⟨i, hi, hb⟩ := Nat.exists_ge_and_testBit_of_ge_two_pow q
    rw [h i hi] at hb; cases hb
theorem bit_lt {t m i : Nat} (h : t < 2 ^ m) (hi : m ≤ i) : t.testBit i = false :=
  Nat.testBit_lt_two_pow (Nat.lt_of_lt_of_le h (Nat.pow_le_pow_right (by omega) hi))
theorem bits_ext {a b : Nat} (h : ∀ i, a.testBit i = b.testBit i) : a = b := Nat.eq_of_testBit_eq h
/-! the count of bits -/
def pcN : Nat → Nat → Nat
  | 0, _ => 0
  | m + 1, t => pcN m t + (if t.testBit m then 1 else 0)
theorem pcN_le (m t : Nat) : pcN m t ≤ m := by
  induction m with
  | zero => exact Nat.le_refl 0
  | succ m ih => unfold pcN; split <;> omega
theorem pcN_big {m t : Nat} (h : t < 2 ^ m) (d : Nat) : pcN (m + d) t = pcN m t := by
  induction d with
  | zero => rfl
  | succ d ih =>
    show pcN (m + d) t + (if t.testBit (m + d) then 1 else 0) = _
    rw [ih, bit_lt h (by omega)]; rfl
def pc (t : Nat) : Nat := pcN 12 t
set_option maxRecDepth 100000 in
theorem bc_all : (List.range 4096).all (fun t => decide (f_J6_bitCount_0f7a4 (nI t) = nI (pc t))) = true := by decide +kernel
theorem bc_nI {t : Nat} (h : t < 4096) : f_J6_bitCount_0f7a4 (nI t) = nI (pc t) := co_dec (P := fun t => f_J6_bitCount_0f7a4 (nI t) = nI (pc t)) bc_all h
theorem many_loop (N t : Nat) (K : Int32 → Int32 → Option Int32) : ∀ (d k acc fuel : Nat), k + d = 32 → d < fuel → f_X6_many_L4 N (nI t) K fuel (nI (acc + pcN k t)) (nI k) = K (nI (acc + pcN 32 t)) (nI 32) := by
  intro d
  induction d with
  | zero =>
    intro k acc fuel hk hf
    obtain ⟨fuel, rfl⟩ : ∃ f, fuel = f + 1 := ⟨fuel - 1, by omega⟩
    have hk : k = 32 := by omega
    subst hk
    rw [f_X6_many_L4, if_pos (show (32 : Int32) ≤ nI 32 by decide)]
  | succ d ih =>
    intro k acc fuel hk hf
    obtain ⟨fuel, rfl⟩ : ∃ f, fuel = f + 1 := ⟨fuel - 1, by omega⟩
    rw [f_X6_many_L4, if_neg (show ¬ ((32 : Int32) ≤ nI k) from nI_ge (b := 32) (by omega) (by omega))]
    unfold bnd
    rw [b_ush _ (by omega), nI_bt (by omega)]
    have e : nI (acc + pcN k t) + b2i (t.testBit k) = nI (acc + pcN (k + 1) t) := by
      show _ = nI (acc + (pcN k t + (if t.testBit k then 1 else 0)))
      cases h : t.testBit k
      · show nI (acc + pcN k t) + nI 0 = _
        rw [nI_add]; rfl
      · show nI (acc + pcN k t) + nI 1 = _
        rw [nI_add]; rfl
    rw [e, nI_1]
    exact ih (k + 1) acc fuel (by omega) (by omega)
theorem many_nI {N t : Nat} (hN : 40 ≤ N) (ht : t < 4096) : f_X6_many N (nI t) = some (nI (pc t)) := by
  unfold f_X6_many
  have h := many_loop N t (fun a_3 _ => some a_3) 32 0 0 N (by omega) (by omega)
  rw [show pcN 32 t = pc t from pcN_big (m := 12) ht 20] at h
  simpa [pcN, nI_0] using h
