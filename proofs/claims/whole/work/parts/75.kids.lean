/-! all the children of a node -/
theorem kids_m {a : Nat → Int32} {N n w mask d k S c L : Nat} {T : Nat → Nat} {V : Nat → Int32} {K : Int32 → Int32 → St → Option St} {st0 : St} (hO : GO n w a) (h8n : n ≤ 8) (hN : 100 ≤ N) (hTB : TB a n mask T V) (ih : 0 < d → Nod a N n mask T V K d) (hkd : k + 1 + d = n) (e0 : st0 0 = a) (h8 : st0 8 k = nI c) (hcb : c ≤ 12 * k) (hL : st0 10 2 = nI L) (hL1 : L ≤ 1000) (hS : S < 2 ^ n) (hp : pcN n S = k) (hrs : S = rs (fun j => tn (st0 7 j)) k) : ∀ e i S' st, i + e = n → At st k i S S' n → Frm k st0 st → Res L c (wS (tkG a mask) (tkL a mask) (cN a) n T V S i).1 (wS (tkG a mask) (tkL a mask) (cN a) n T V S i).2 (FC (tkG a mask) (tkL a mask) (cN a) n T k i (wS (tkG a mask) (tkL a mask) (cN a) n T V S i).1 S (st0 7)) st0 st → ∃ u st', u ≤ e * (1 + tm d) + 1 ∧ (∀ f, f_X6_search_L38 N (nI mask) (nI n) K (u + f) (nI k) (nI S') st = f_X6_search_L38 N (nI mask) (nI n) K f (xI k) (nI S) st') ∧ Frm k st0 st' ∧ Res L c (wS (tkG a mask) (tkL a mask) (cN a) n T V S n).1 (wS (tkG a mask) (tkL a mask) (cN a) n T V S n).2 (FC (tkG a mask) (tkL a mask) (cN a) n T k n (wS (tkG a mask) (tkL a mask) (cN a) n T V S n).1 S (st0 7)) st0 st' := by
  have hn := hO.1
  have hk : k < n := by omega
  intro e
  induction e using Nat.strongRecOn with
  | ind e ihe =>
    intro i S' st hie hAt hF hR
    have f0 : st 0 = a := (hF.1 0 (by omega)).trans e0
    have f8 : st 8 k = nI c := (hF.2.2.2.2 k (Nat.le_refl k)).trans h8
    have fL := hR.at
    have hlc : ∀ m, lc L c m ≤ 1000 := fun m => by unfold lc; split <;> omega
    obtain ⟨g, g1, g2, g3, g4, g5⟩ := next_u (mask := mask) (S := S) (i := i) (w := w) (by rw [f0]; exact hO) hN hk f8 fL (by omega) (hlc _) (by omega)
    rw [f0] at g3 g4
    have hres : ∀ y x, i + y = x → x ≤ g → Res L c (wS (tkG a mask) (tkL a mask) (cN a) n T V S x).1 (wS (tkG a mask) (tkL a mask) (cN a) n T V S x).2 (FC (tkG a mask) (tkL a mask) (cN a) n T k x (wS (tkG a mask) (tkL a mask) (cN a) n T V S x).1 S (st0 7)) st0 st := by
      intro y
      induction y with
      | zero => intro x hx _; have : x = i := by omega
                subst this; exact hR
      | succ y ihy =>
        intro x hx hxg
        obtain ⟨x, rfl⟩ : ∃ x', x = x' + 1 := ⟨x - 1, by omega⟩
        have hpre := ihy x (by omega) (by omega)
        refine res_skip hpre (fun hm => ?_)
        have hnp := g3 x (by omega) (by omega)
        have hsame : lc L c (wS (tkG a mask) (tkL a mask) (cN a) n T V S x).1 = lc L c (wS (tkG a mask) (tkL a mask) (cN a) n T V S i).1 := nI_inj (by have := hlc (wS (tkG a mask) (tkL a mask) (cN a) n T V S x).1; omega) (by have := hlc (wS (tkG a mask) (tkL a mask) (cN a) n T V S i).1; omega) (hpre.at.symm.trans fL)
        have hqe : hq (tkG a mask) (tkL a mask) n S x = hc a n x S mask := hq_hc hO (fun i hi => ⟨rfl, rfl⟩) (by omega)
        rw [hsame]
        unfold ct
        rw [hqe]
        rcases Nat.lt_or_ge (lc L c (wS (tkG a mask) (tkL a mask) (cN a) n T V S i).1) (c + hc a n x S mask) with z | z
        · omega
        · exact absurd ⟨hm, z⟩ hnp
    have hRg := hres (g - i) g (by omega) (Nat.le_refl g)
    by_cases hgn : g = n
    · subst hgn
      refine ⟨1, st, by omega, fun f => ?_, hF, hRg⟩
      rw [Nat.add_comm 1 f, round_m hn hk hAt, g5]
      unfold Bd
      rw [if_pos rfl, xI_s]
    · have hg : g < n := by omega
      have fLg := hRg.at
      obtain ⟨u1, s1, s2, c1, c2, c3, c4, c5, c6, c7, c8, c9⟩ := child_m (a := a) (N := N) (mask := mask) (d := d) (K := K) (st := st) (g := g) (k := k) (S := S) (c := c) (L := lc L c (wS (tkG a mask) (tkL a mask) (cN a) n T V S g).1) hO hN hTB ih hkd f0 f8 hcb fLg (hlc _) hS hp (by
        rw [hrs]
        exact rs_congr k (fun j hj => by rw [(hF.2.2.2.1 j hj).1])) hg (by
        have hsame : lc L c (wS (tkG a mask) (tkL a mask) (cN a) n T V S g).1 = lc L c (wS (tkG a mask) (tkL a mask) (cN a) n T V S i).1 := nI_inj (by have := hlc (wS (tkG a mask) (tkL a mask) (cN a) n T V S g).1; omega) (by have := hlc (wS (tkG a mask) (tkL a mask) (cN a) n T V S i).1; omega) (fLg.symm.trans fL)
        rw [hsame]; exact g4 hg)
      have hm := (g4 hg).1
      have hR2 := res_do hk hRg hm c5 c6 c3 (fun j hj => (c7 j hj).trans (hF.2.2.2.1 j hj).1) c8
      obtain ⟨u2, st', d1, d2, d3, d4⟩ := ihe (n - (g + 1)) (by omega) (g + 1) (S ||| 2 ^ g) s2 (by omega) (Or.inr ⟨g, hg, c9, rfl, rfl, may_no hm⟩) (hF.tr c4) hR2
      refine ⟨1 + u1 + u2, st', ?_, fun f => ?_, d3, d4⟩
      · have hmul : (n - (g + 1) + 1) * (1 + tm d) ≤ e * (1 + tm d) := Nat.mul_le_mul_right _ (by omega)
        rw [Nat.succ_mul] at hmul
        omega
      · rw [show 1 + u1 + u2 + f = (u1 + (u2 + f)) + 1 by omega, round_m hn hk hAt, g5, c2, d2]
theorem node_m {a : Nat → Int32} {N n w mask : Nat} {T : Nat → Nat} {V : Nat → Int32} {K : Int32 → Int32 → St → Option St} (hO : GO n w a) (h8n : n ≤ 8) (hN : 100 ≤ N) (hTB : TB a n mask T V) : ∀ d, 0 < d → Nod a N n mask T V K d := by
  have hn := hO.1
  intro d
  induction d with
  | zero => intro h; omega
  | succ d ih =>
    intro _ k S c L st hkd e0 h8 hcb hL hL1 h9 hS hp hrs
    obtain ⟨u, st', u1, u2, u3, u4⟩ := kids_m (K := K) hO h8n hN hTB ih (show k + 1 + d = n by omega) e0 h8 hcb hL hL1 hS hp hrs n 0 S st (by omega) (Or.inl ⟨h9, rfl, rfl⟩) (Frm.rf k st) ⟨fun y => by have : c + 1000000 < L := y; omega, fun y => by have : c + 1000000 = L := y; omega, fun _ => ⟨hL, rfl, rfl⟩⟩
    have hne : S < al n := by
      have h2 := le_al.mpr hS
      have h3 : ¬ S = al n := by intro q; rw [q, al_pc] at hp; omega
      omega
    have e := hTB.2.2 S hne
    have e1 : T S = (wS (tkG a mask) (tkL a mask) (cN a) n T V S n).1 := congrArg Prod.fst e
    have e2 : V S = (wS (tkG a mask) (tkL a mask) (cN a) n T V S n).2 := congrArg Prod.snd e
    refine ⟨u, st', ?_, u2, ?_, u3⟩
    · have hmul : n * (1 + tm d) ≤ 10 * (1 + tm d) := Nat.mul_le_mul_right _ hn
      show u ≤ 10 * (1 + tm d) + 1
      omega
    · rw [← e1, ← e2] at u4
      refine ⟨fun y => ⟨(u4.1 y).1, (u4.1 y).2.1, ?_⟩, u4.2.1, u4.2.2⟩
      obtain ⟨b1, ⟨b2, b3, b4, b5⟩, b6⟩ := (u4.1 y).2.2
      refine ⟨b1, fun j x1 x2 => ?_⟩
      by_cases q : j = k
      · subst q
        have hr2 : rs (fun j => tn (st' 6 j)) j = S := by
          rw [hrs]
          exact rs_congr j (fun l hl => by rw [b1 l hl])
        rw [hr2]
        exact ⟨b2, b3, b4, b5⟩
      · exact b6 j (by omega) x2
