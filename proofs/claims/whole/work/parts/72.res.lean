/-! what a part of the reference's search comes to -/
def Res (L c m : Nat) (w : Int32) (F : (Nat → Int32) → Prop) (st st' : St) : Prop := (c + m < L → st' 10 2 = nI (c + m) ∧ st' 10 3 = w ∧ F (st' 6)) ∧ (c + m = L → st' 10 2 = nI L ∧ st' 10 3 = st 10 3 + w ∧ st' 6 = st 6) ∧ (L < c + m → st' 10 2 = nI L ∧ st' 10 3 = st 10 3 ∧ st' 6 = st 6)
def FN (G Lk Cu : Nat → Nat) (n : Nat) (T : Nat → Nat) (k : Nat) (f7 b : Nat → Int32) : Prop := (∀ j, j < k → b j = f7 j) ∧ ∀ j, k ≤ j → j < n → FR G Lk Cu n T (rs (fun j => tn (b j)) j) (tn (b j))
def FC (G Lk Cu : Nat → Nat) (n : Nat) (T : Nat → Nat) (k i m S : Nat) (f7 b : Nat → Int32) : Prop := (∀ j, j < k → b j = f7 j) ∧ (tn (b k) < i ∧ may Cu S (tn (b k)) = true ∧ ct G Lk n T S (tn (b k)) = m ∧ ∀ h, h < tn (b k) → may Cu S h = true → ¬ ct G Lk n T S h = m) ∧ ∀ j, k < j → j < n → FR G Lk Cu n T (rs (fun j => tn (b j)) j) (tn (b j))
theorem FC_up {G Lk Cu : Nat → Nat} {n : Nat} {T : Nat → Nat} {k i m S : Nat} {f7 b : Nat → Int32} (h : FC G Lk Cu n T k i m S f7 b) : FC G Lk Cu n T k (i + 1) m S f7 b := by
  obtain ⟨h1, ⟨h2, h3⟩, h4⟩ := h
  exact ⟨h1, ⟨by omega, h3⟩, h4⟩
def lc (L c m : Nat) : Nat := if c + m < L then c + m else L
theorem Res.at {L c m : Nat} {w : Int32} {F : (Nat → Int32) → Prop} {st st' : St} (h : Res L c m w F st st') : st' 10 2 = nI (lc L c m) := by
  unfold lc
  by_cases q : c + m < L
  · rw [if_pos q]; exact (h.1 q).1
  · rw [if_neg q]
    by_cases q2 : c + m = L
    · exact (h.2.1 q2).1
    · exact (h.2.2 (by omega)).1
theorem wS_case (G Lk Cu : Nat → Nat) (n : Nat) (T : Nat → Nat) (V : Nat → Int32) (S i : Nat) : (may Cu S i = false ∧ wS G Lk Cu n T V S (i + 1) = wS G Lk Cu n T V S i) ∨ (may Cu S i = true ∧ ((ct G Lk n T S i < (wS G Lk Cu n T V S i).1 ∧ wS G Lk Cu n T V S (i + 1) = (ct G Lk n T S i, V (S ||| 2 ^ i))) ∨ (ct G Lk n T S i = (wS G Lk Cu n T V S i).1 ∧ wS G Lk Cu n T V S (i + 1) = ((wS G Lk Cu n T V S i).1, (wS G Lk Cu n T V S i).2 + V (S ||| 2 ^ i))) ∨ ((wS G Lk Cu n T V S i).1 < ct G Lk n T S i ∧ wS G Lk Cu n T V S (i + 1) = wS G Lk Cu n T V S i))) := by
  cases hm : may Cu S i
  · left
    refine ⟨rfl, ?_⟩
    rw [wS, hm]; rfl
  · right
    refine ⟨rfl, ?_⟩
    have e : wS G Lk Cu n T V S (i + 1) = (if ct G Lk n T S i < (wS G Lk Cu n T V S i).1 then (ct G Lk n T S i, V (S ||| 2 ^ i)) else if ct G Lk n T S i = (wS G Lk Cu n T V S i).1 then ((wS G Lk Cu n T V S i).1, (wS G Lk Cu n T V S i).2 + V (S ||| 2 ^ i)) else wS G Lk Cu n T V S i) := by
      rw [wS, hm]; rfl
    rw [e]
    by_cases c1 : ct G Lk n T S i < (wS G Lk Cu n T V S i).1
    · rw [if_pos c1]; exact Or.inl ⟨c1, rfl⟩
    · rw [if_neg c1]
      by_cases c2 : ct G Lk n T S i = (wS G Lk Cu n T V S i).1
      · rw [if_pos c2]; exact Or.inr (Or.inl ⟨c2, rfl⟩)
      · rw [if_neg c2]; exact Or.inr (Or.inr ⟨by omega, rfl⟩)
/-- one that is passed over -/
theorem res_skip {G Lk Cu : Nat → Nat} {n : Nat} {T : Nat → Nat} {V : Nat → Int32} {k i S L c : Nat} {f7 : Nat → Int32} {st st' : St} (h : Res L c (wS G Lk Cu n T V S i).1 (wS G Lk Cu n T V S i).2 (FC G Lk Cu n T k i (wS G Lk Cu n T V S i).1 S f7) st st') (hs : may Cu S i = true → lc L c (wS G Lk Cu n T V S i).1 < c + ct G Lk n T S i) : Res L c (wS G Lk Cu n T V S (i + 1)).1 (wS G Lk Cu n T V S (i + 1)).2 (FC G Lk Cu n T k (i + 1) (wS G Lk Cu n T V S (i + 1)).1 S f7) st st' := by
  have same : wS G Lk Cu n T V S (i + 1) = wS G Lk Cu n T V S i → Res L c (wS G Lk Cu n T V S (i + 1)).1 (wS G Lk Cu n T V S (i + 1)).2 (FC G Lk Cu n T k (i + 1) (wS G Lk Cu n T V S (i + 1)).1 S f7) st st' := by
    intro e
    rw [e]
    exact ⟨fun q => ⟨(h.1 q).1, (h.1 q).2.1, FC_up (h.1 q).2.2⟩, h.2.1, h.2.2⟩
  rcases wS_case G Lk Cu n T V S i with ⟨-, e⟩ | ⟨hm, ⟨hx, e⟩ | ⟨hx, e⟩ | ⟨hx, e⟩⟩
  · exact same e
  · have q := hs hm
    unfold lc at q
    by_cases q1 : c + (wS G Lk Cu n T V S i).1 < L
    · rw [if_pos q1] at q; omega
    · rw [if_neg q1] at q
      rw [e]
      have h3 := h.2.2 (by omega)
      exact ⟨fun z => by have : c + ct G Lk n T S i < L := z; omega, fun z => by have : c + ct G Lk n T S i = L := z; omega, fun _ => h3⟩
  · have q := hs hm
    unfold lc at q
    by_cases q1 : c + (wS G Lk Cu n T V S i).1 < L
    · rw [if_pos q1] at q; omega
    · rw [if_neg q1] at q
      rw [e]
      have h3 := h.2.2 (by omega)
      exact ⟨fun z => by have : c + (wS G Lk Cu n T V S i).1 < L := z; omega, fun z => by have : c + (wS G Lk Cu n T V S i).1 = L := z; omega, fun _ => h3⟩
  · exact same e
/-- one that is gone into -/
theorem res_do {G Lk Cu : Nat → Nat} {n : Nat} {T : Nat → Nat} {V : Nat → Int32} {k i S L c : Nat} {f7 g7 : Nat → Int32} {st st' s1 s2 : St} (hk : k < n) (h : Res L c (wS G Lk Cu n T V S i).1 (wS G Lk Cu n T V S i).2 (FC G Lk Cu n T k i (wS G Lk Cu n T V S i).1 S f7) st st') (hm : may Cu S i = true) (e3 : s1 10 3 = st' 10 3) (e6 : s1 6 = st' 6) (hd : Res (lc L c (wS G Lk Cu n T V S i).1) (c + hq G Lk n S i) (T (S ||| 2 ^ i)) (V (S ||| 2 ^ i)) (FN G Lk Cu n T (k + 1) g7) s1 s2) (g1 : ∀ j, j < k → g7 j = f7 j) (g2 : tn (g7 k) = i) : Res L c (wS G Lk Cu n T V S (i + 1)).1 (wS G Lk Cu n T V S (i + 1)).2 (FC G Lk Cu n T k (i + 1) (wS G Lk Cu n T V S (i + 1)).1 S f7) st s2 := by
  have hct : c + hq G Lk n S i + T (S ||| 2 ^ i) = c + ct G Lk n T S i := by unfold ct; omega
  unfold Res at hd
  rw [hct] at hd
  obtain ⟨d1, d2, d3⟩ := hd
  have imp : ct G Lk n T S i < (wS G Lk Cu n T V S i).1 → FN G Lk Cu n T (k + 1) g7 (s2 6) → FC G Lk Cu n T k (i + 1) (ct G Lk n T S i) S f7 (s2 6) := by
    intro hx hF
    have ek : tn (s2 6 k) = i := by rw [hF.1 k (by omega)]; exact g2
    refine ⟨fun j hj => (hF.1 j (by omega)).trans (g1 j hj), ⟨by omega, by rw [ek]; exact hm, by rw [ek], fun x hx2 hmx hq2 => ?_⟩, fun j a b => hF.2 j (by omega) b⟩
    rw [ek] at hx2
    have := wS_min (G := G) (Lk := Lk) (n := n) (T := T) (W := V) i x hx2 hmx
    omega
  rcases wS_case G Lk Cu n T V S i with ⟨hm2, -⟩ | ⟨-, ⟨hx, e⟩ | ⟨hx, e⟩ | ⟨hx, e⟩⟩
  · rw [hm] at hm2; cases hm2
  · rw [e]
    have F := imp hx
    unfold lc at d1 d2 d3
    by_cases q1 : c + (wS G Lk Cu n T V S i).1 < L
    · rw [if_pos q1] at d1 d2 d3
      have z := d1 (by omega)
      exact ⟨fun _ => ⟨z.1, z.2.1, F z.2.2⟩, fun y => by have : c + ct G Lk n T S i = L := y; omega, fun y => by have : L < c + ct G Lk n T S i := y; omega⟩
    · rw [if_neg q1] at d1 d2 d3
      refine ⟨fun y => ⟨(d1 y).1, (d1 y).2.1, F (d1 y).2.2⟩, fun y => ?_, fun y => ?_⟩
      · have y2 : c + ct G Lk n T S i = L := y
        have h3 := h.2.2 (by omega)
        have z := d2 y2
        exact ⟨z.1, by rw [z.2.1, e3, h3.2.1], by rw [z.2.2, e6, h3.2.2]⟩
      · have y2 : L < c + ct G Lk n T S i := y
        have h3 := h.2.2 (by omega)
        have z := d3 y2
        exact ⟨z.1, by rw [z.2.1, e3, h3.2.1], by rw [z.2.2, e6, h3.2.2]⟩
  · rw [e]
    unfold lc at d1 d2 d3
    by_cases q1 : c + (wS G Lk Cu n T V S i).1 < L
    · rw [if_pos q1] at d1 d2 d3
      have z := d2 (by omega)
      have hh := h.1 q1
      exact ⟨fun _ => ⟨z.1, by rw [z.2.1, e3, hh.2.1], by rw [z.2.2, e6]; exact FC_up hh.2.2⟩, fun y => by have : c + (wS G Lk Cu n T V S i).1 = L := y; omega, fun y => by have : L < c + (wS G Lk Cu n T V S i).1 := y; omega⟩
    · rw [if_neg q1] at d1 d2 d3
      refine ⟨fun y => absurd y q1, fun y => ?_, fun y => ?_⟩
      · have y2 : c + (wS G Lk Cu n T V S i).1 = L := y
        have z := d2 (by omega)
        have hh := h.2.1 y2
        exact ⟨z.1, by rw [z.2.1, e3, hh.2.1, Int32.add_assoc], by rw [z.2.2, e6, hh.2.2]⟩
      · have y2 : L < c + (wS G Lk Cu n T V S i).1 := y
        have z := d3 (by omega)
        have hh := h.2.2 y2
        exact ⟨z.1, by rw [z.2.1, e3, hh.2.1], by rw [z.2.2, e6, hh.2.2]⟩
  · rw [e]
    unfold lc at d1 d2 d3
    by_cases q1 : c + (wS G Lk Cu n T V S i).1 < L
    · rw [if_pos q1] at d1 d2 d3
      have z := d3 (by omega)
      have hh := h.1 q1
      exact ⟨fun _ => ⟨z.1, by rw [z.2.1, e3, hh.2.1], by rw [z.2.2, e6]; exact FC_up hh.2.2⟩, fun y => by omega, fun y => by omega⟩
    · rw [if_neg q1] at d1 d2 d3
      refine ⟨fun y => absurd y q1, fun y => ?_, fun y => ?_⟩
      · have z := d3 (by omega)
        have hh := h.2.1 y
        exact ⟨z.1, by rw [z.2.1, e3, hh.2.1], by rw [z.2.2, e6, hh.2.2]⟩
      · have z := d3 (by omega)
        have hh := h.2.2 y
        exact ⟨z.1, by rw [z.2.1, e3, hh.2.1], by rw [z.2.2, e6, hh.2.2]⟩
