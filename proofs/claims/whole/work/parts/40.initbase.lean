/-! constructors: worlds that grow -/
def EI (U : State) : Prop := va_AO "GraveRows$Grave" U ∧ va_AO "GraveRows$Sheet" U ∧ va_Nw (.methodLinkNest RX2 30 yX1_init RX5) U ∧ va_Nw (.methodLinkNest RX5 25 yX4_init RX5) U ∧ va_Nw (.methodLinkNest RX5 28 yX3_init RX5) U ∧ va_Nw (.methodLinkNest RX5 35 yX0_init RX5) U
theorem EI.go {s U : State} (h : EI s) (hW : s.WarmedH U.vm) : EI U :=
  ⟨h.1.moved hW.alike, h.2.1.moved hW.alike, va_Nw.warmM hW h.2.2.1, va_Nw.warmM hW h.2.2.2.1, va_Nw.warmM hW h.2.2.2.2.1, va_Nw.warmM hW h.2.2.2.2.2⟩
def CxN (p : Program) (s : State) (m : MethodId) (args : Array Value) (c : Code) (cc : ByteArray) (nL : Nat) (wd : List Cond) (own : String) (g : GP) : Prop := CallFix p m c cc nL s args wd own ∧ va_K g.1 vwCl (tyG g) s ∧ EI s
def PcN (g : GP) (av : List Value) (ws : va_W) (sz : Nat) : Array Value → State → Prop := va_Pc av (fun U => U.heap.size = sz ∧ va_P g.1 vwCl ws U.heap ∧ va_K g.1 vwCl (tyG g) U ∧ va_D (fun _ => True) ws ∧ EI U)
def MetN (l : Launch) (y : MethodName) (wd : List Cond) (rm : Room) (g : GP) (av : List Value) (ws : va_W) (wr : (Nat → Nat) → va_W) (mc ms : Nat) : Prop := ∀ sz : Nat, Met l y wd rm (PcN g av ws sz) (va_Qv (fun (_ : Nat → Nat) => True) (fun u t => va_P g.1 vwCl (wr u) t.heap ∧ va_D (va_A ws sz) (wr u)) (va_A ws sz)) mc ms (va_A ws sz)
def RetN (p : Program) (l : Launch) (e : Env) (R : Room) (s : State) (m : MethodId) (args : Array Value) (below : List Frame) (meth : Method) (c : Code) (Q : State → Prop) (cc : ByteArray) (g : GP) (A : Nat → Prop) (wr : (Nat → Nat) → va_W) (mc ms : Nat) : Prop :=
  ∀ (u : Nat → Nat) (H : Heap) (locs : List Loc) (pc : Nat) (ls : Array Slot), IW g A s.heap (wr u) H locs → decode cc pc = .ok (.return_, 1) → W p l e R s m args below meth c H locs mc ms Q (F0 m pc ls [])
theorem metN_of {l : Launch} {y : MethodName} {wd wd' : List Cond} {rm : Room} {g : GP} {av : List Value} {ws : va_W} {wr : (Nat → Nat) → va_W} {mc ms : Nat} {cc : ByteArray} {nL : Nat} (hpl : plainName y.cls = true) (hw : wd = Cond.code y cc nL none :: wd') (hn : (lg_sl av).length ≤ nL)
    (body : ∀ (p : Program) (e : Env) (s : State) (m : MethodId) (below : List Frame) (meth : Method) (c : Code) (Q : State → Prop) (A : Nat → Prop), CxN p s m av.toArray c cc nL wd y.cls g → meth.name = y.name → RetN p l e rm s m av.toArray below meth c Q cc g A wr mc ms →
      ∀ (H : Heap) (locs : List Loc), IW g A s.heap ws H locs → ∀ ls : Array Slot, lv_has ls nL (lv_args 0 av) → W p l e rm s m av.toArray below meth c H locs 0 0 Q (F0 m 0 ls [])) : MetN l y wd rm g av ws wr mc ms := by
  intro sz
  refine Met.ofW (cc := cc) (maxL := nL) (ret := none) hpl hw ?_
  intro p e s m args below meth c s₁ B hml hv
  obtain ⟨rfl, hsz, hP, hK, hD0, hE⟩ := hv
  have hx := B.exec
  have hb := B.bytes
  have hr := B.returns
  have hts := atoms_spec (ws := wd) B.pre
  have hown : s.vm.findClass y.cls = some m.cls := findClass_of_methodNamed B.named
  have hlocks := B.notSynchronized
  subst hsz
  have hD := hD0.self (sz := s.heap.size)
  have hA : ∀ q : Nat, s.heap.size ≤ q → va_A ws s.heap.size q := fun q h => Or.inr h
  have hl := lv_entry av (n := nL) hn
  rw [lg_entry_eq]
  refine body p e s m below meth c _ (va_A ws s.heap.size) ⟨⟨hx, hb, hml, hown, hts⟩, hK, hE⟩ (name_of_methodNamed B.named B.method).1 ?_ s.heap [] ⟨hP, hD, va_S.rf, hA⟩ _ hl
  intro u H locs pc ls hI hdg
  obtain ⟨hP, hD, hS, -⟩ := hI
  exact W.vret hx hb hr (fun t ht hW => ⟨⟨u, rfl, trivial, by rw [ht]; exact hP, hD⟩, hS.F ht⟩) hS.2.2 hdg
theorem blind_N {g : GP} {av : List Value} {ws : va_W} {sz : Nat} : FrameBlind (PcN g av ws sz) := by
  intro a U g' mk q
  obtain ⟨q0, q1, qP, qK, qD, qE⟩ := q
  have e : U.vm = (U.calling g' mk a).vm := rfl
  exact ⟨q0, q1, qP, va_K.moved (u := U) (U := U.calling g' mk a) (Vm.Alike.refl U.vm) qK, qD, qE.1.moved (u := U) (U := U.calling g' mk a) (Vm.Alike.refl U.vm), qE.2.1.moved (u := U) (U := U.calling g' mk a) (Vm.Alike.refl U.vm), va_Nw.same rfl e qE.2.2.1, va_Nw.same rfl e qE.2.2.2.1, va_Nw.same rfl e qE.2.2.2.2.1, va_Nw.same rfl e qE.2.2.2.2.2⟩
theorem last_at (ws : va_W) (x : Nat × va_E) : (ws ++ [x])[ws.length]? = some x := by simp
theorem IW_seta {g : GP} {A : Nat → Prop} {H0 H : Heap} {locs : List Loc} {ws : va_W} (hI : IW g A H0 ws H locs) (k : Nat) {a n : Nat} {cA : ClassId} {x x' : (Nat → Int32) ⊕ (Nat → Int64) ⊕ (Nat → UInt32) ⊕ (Nat → UInt64) ⊕ (Nat → Option Nat)} (he : ws[k]? = some (a, .inl (cA, n, x))) (hx : vp_cell cA (n, x) = vp_cell cA (n, x')) : IW g A H0 (ws.set k (a, .inl (cA, n, x'))) H locs := by
  obtain ⟨hP, hD, hS, hA⟩ := hI
  have key : ∀ (j : Nat) (q : Nat × va_E), (ws.set k (a, .inl (cA, n, x')))[j]? = some q → (j = k ∧ q = (a, .inl (cA, n, x'))) ∨ (j ≠ k ∧ ws[j]? = some q) := by
    intro j q hq
    rw [List.getElem?_set] at hq
    by_cases hjk : k = j
    · rw [if_pos hjk] at hq
      by_cases hl : k < ws.length
      · rw [if_pos hl] at hq
        exact Or.inl ⟨hjk.symm, (Option.some.inj hq).symm⟩
      · rw [if_neg hl] at hq
        cases hq
    · rw [if_neg hjk] at hq
      exact Or.inr ⟨fun e => hjk e.symm, hq⟩
  refine ⟨fun j q hq => ?_, ⟨fun i j p q hp hq e => ?_, fun j q hq => ?_⟩, hS, hA⟩
  · rcases key j q hq with ⟨rfl, rfl⟩ | ⟨_, h⟩
    · have h := hP _ _ he
      show H[a]? = some (vp_cell cA (n, x'))
      rw [← hx]
      exact h
    · exact hP j q h
  · rcases key i p hp with ⟨rfl, rfl⟩ | ⟨_, h1⟩
    · rcases key j q hq with ⟨rfl, rfl⟩ | ⟨_, h2⟩
      · rfl
      · exact hD.1 _ _ _ _ he h2 e
    · rcases key j q hq with ⟨rfl, rfl⟩ | ⟨_, h2⟩
      · exact hD.1 _ _ _ _ h1 he e
      · exact hD.1 _ _ _ _ h1 h2 e
  · rcases key j q hq with ⟨rfl, rfl⟩ | ⟨_, h⟩
    · exact (show A a from hD.2 _ _ he)
    · exact hD.2 j q h
theorem cell_congr {cA : ClassId} {n : Nat} {f f' : Nat → Int32} (h : ∀ j, j < n → f j = f' j) : vp_cell cA (n, .inl f) = vp_cell cA (n, .inl f') := by
  show arrV cA n (fun j => .int (f j)) = arrV cA n (fun j => .int (f' j))
  unfold arrV
  congr 1
  congr 1
  funext j
  show Value.int (f j.val) = Value.int (f' j.val)
  rw [h j.val j.isLt]
theorem cell_congrQ {cA : ClassId} {n : Nat} {f f' : Nat → Option Nat} (h : ∀ j, j < n → f j = f' j) : vp_cell cA (n, .inr (.inr (.inr (.inr f)))) = vp_cell cA (n, .inr (.inr (.inr (.inr f')))) := by
  show arrV cA n (fun j => va_rf (f j)) = arrV cA n (fun j => va_rf (f' j))
  unfold arrV
  congr 1
  congr 1
  funext j
  show va_rf (f j.val) = va_rf (f' j.val)
  rw [h j.val j.isLt]
section Inits
variable {p : Program} {l : Launch} {e : Env} {R : Room} {s : State} {m : MethodId} {args : Array Value} {below : List Frame} {meth : Method} {c : Code} {H : Heap} {locs : List Loc} {Q : State → Prop} {cc bytes : ByteArray} {pc nL index cells slots n maxL mc ms b : Nat} {ls : Array Slot} {rest st0 As : List Value} {g : GP} {A : Nat → Prop} {Ts wd : List Cond} {own ref CN host : String} {T : u_T} {N ci a : Nat} {fs : List Value} {ws : va_W} {y : MethodName} {rm : Room} {wr : (Nat → Nat) → va_W} {x : va_E}
theorem n_newI {atype : ArrayType} (C : CxN p s m args c cc nL Ts own g) (hI : IW g A s.heap ws H locs) (harr : (Cond.arrayClass .int).before args s = true) (hat : newarray.typeOf atype = .int) {k : Int32} {N' : Nat} (hn : ¬ k < 0) (hN : k.toNatClampNeg = N') (hbytes : N' * componentBytes .int ≤ 536870912) (hcells : cells + 1 ≤ R.cells) (hslots : slots + N' ≤ R.slots) (hdg : decode cc pc = .ok (.newarray atype, 2))
    (kk : ∀ (q : Nat) (H1 : Heap), IW g A s.heap (ws ++ [(q, .inl (g.2.1 0, N', .inl (fun _ => 0)))]) H1 locs → W p l e R s m args below meth c H1 locs (cells + 1) (slots + N') Q (F0 m (pc + 2) ls (.ref q :: rest))) : W p l e R s m args below meth c H locs cells slots Q (F0 m pc ls (.int k :: rest)) := by
  refine va_newa C.1.1 C.1.2.1 (atype := atype) (by rw [hat]; exact harr) hat C.2.1 hI.1 hI.2.1 hI.2.2.1 hI.2.2.2 (a0 := (N', .inl (fun _ => 0))) (fun cA => rfl) hn hN hbytes hcells hslots hdg (fun q cA H1 hK hP hD hS => ?_)
  have h1 : s.vm.findClass _ = some (g.2.1 0) := (C.2.1.2 0 _ rfl).2
  have h2 : s.vm.findClass _ = some cA := (hK.2 4 _ rfl).2
  obtain rfl : g.2.1 0 = cA := Option.some.inj (h1.symm.trans h2)
  exact kk q H1 ⟨hP, hD, hS, hI.2.2.2⟩
theorem n_newZ {atype : ArrayType} (C : CxN p s m args c cc nL Ts own g) (hI : IW g A s.heap ws H locs) (harr : (Cond.arrayClass .boolean).before args s = true) (hat : newarray.typeOf atype = .boolean) {k : Int32} {N' : Nat} (hn : ¬ k < 0) (hN : k.toNatClampNeg = N') (hbytes : N' * componentBytes .boolean ≤ 536870912) (hcells : cells + 1 ≤ R.cells) (hslots : slots + N' ≤ R.slots) (hdg : decode cc pc = .ok (.newarray atype, 2))
    (kk : ∀ (q : Nat) (H1 : Heap), IW g A s.heap (ws ++ [(q, .inl (g.2.1 1, N', .inl (fun _ => 0)))]) H1 locs → W p l e R s m args below meth c H1 locs (cells + 1) (slots + N') Q (F0 m (pc + 2) ls (.ref q :: rest))) : W p l e R s m args below meth c H locs cells slots Q (F0 m pc ls (.int k :: rest)) := by
  refine va_newa C.1.1 C.1.2.1 (atype := atype) (by rw [hat]; exact harr) hat C.2.1 hI.1 hI.2.1 hI.2.2.1 hI.2.2.2 (a0 := (N', .inl (fun _ => 0))) (fun cA => rfl) hn hN hbytes hcells hslots hdg (fun q cA H1 hK hP hD hS => ?_)
  have h1 : s.vm.findClass _ = some (g.2.1 1) := (C.2.1.2 1 _ rfl).2
  have h2 : s.vm.findClass _ = some cA := (hK.2 4 _ rfl).2
  obtain rfl : g.2.1 1 = cA := Option.some.inj (h1.symm.trans h2)
  exact kk q H1 ⟨hP, hD, hS, hI.2.2.2⟩
theorem n_newQ {ti : Nat} (C : CxN p s m args c cc nL Ts own g) (hI : IW g A s.heap ws H locs) (hcl : (Cond.classLink own index CN).before args s = true) (hao : va_AO CN s) (ht : (tyG g)[ti]? = some (g.2.1 ti, .object CN)) {k : Int32} {N' : Nat} (hn : ¬ k < 0) (hN : k.toNatClampNeg = N') (hbytes : N' * 4 ≤ 536870912) (hcells : cells + 1 ≤ R.cells) (hslots : slots + N' ≤ R.slots) (hdg : decode cc pc = .ok (.anewarray index, 3))
    (kk : ∀ (q : Nat) (H1 : Heap), IW g A s.heap (ws ++ [(q, .inl (g.2.1 ti, N', .inr (.inr (.inr (.inr (fun _ => none))))))]) H1 locs → W p l e R s m args below meth c H1 locs (cells + 1) (slots + N') Q (F0 m (pc + 3) ls (.ref q :: rest))) : W p l e R s m args below meth c H locs cells slots Q (F0 m pc ls (.int k :: rest)) := by
  refine va_newq C.1.1 C.1.2.1 C.1.2.2.2.1 hcl hao C.2.1 hI.1 hI.2.1 hI.2.2.1 hI.2.2.2 hn hN hbytes hcells hslots hdg (fun q cA H1 hK hP hD hS => ?_)
  obtain ⟨_, _, _, _, _, h1⟩ := (C.2.1.2 ti _ ht).2
  obtain ⟨_, _, _, _, _, h2⟩ := (hK.2 4 _ rfl).2
  obtain rfl : g.2.1 ti = cA := Option.some.inj (h1.symm.trans h2)
  exact kk q H1 ⟨hP, hD, hS, hI.2.2.2⟩
theorem n_new (C : CxN p s m args c cc nL Ts own g) (hI : IW g A s.heap ws H locs) (hin : ∀ w ∈ u_ws CN T N, w ∈ Ts) (ty : Nat → FieldType) (hty : ∀ k, k < N → parseFieldDescriptor (T k).2.2.1 = some (ty k)) (hcl : (Cond.classLink own index CN).before args s = true) (hinst : (Cond.instantiable CN N).before args s = true) (hini : (Cond.initialized CN).before args s = true) (hc : vwCl[ci]? = some (CN, T, N)) (hfs : ∀ j, j < N → defaultValue (ty j) = vp_V fs j) (hcells : cells + 1 ≤ R.cells) (hslots : slots + N ≤ R.slots) (hdg : decode cc pc = .ok (.new index, 3))
    (kk : ∀ (q : Nat) (H1 : Heap), IW g A s.heap (ws ++ [(q, .inr (ci, fs))]) H1 locs → W p l e R s m args below meth c H1 locs (cells + 1) (slots + N) Q (F0 m (pc + 3) ls (.ref q :: rest))) : W p l e R s m args below meth c H locs cells slots Q (F0 m pc ls rest) :=
  va_new (ci := ci) (fs := fs) (C := CN) (T := T) (N := N) C.1.1 C.1.2.1 C.1.2.2.2.2 hin ty hty C.1.2.2.2.1 hcl hinst hini C.2.1 hI.1 hI.2.1 hI.2.2.1 hI.2.2.2 hc hfs hcells hslots hdg (fun q H1 hP hD hS => kk q H1 ⟨hP, hD, hS, hI.2.2.2⟩)
theorem n_putF (C : CxN p s m args c cc nL Ts own g) (hI : IW g A s.heap ws H locs) (hin : ∀ w ∈ u_ws CN T N, w ∈ Ts) (ty0 : Nat → FieldType) (hty : ∀ k, k < N → parseFieldDescriptor (T k).2.2.1 = some (ty0 k)) (hnm : ∀ a, a < N → ∀ b, b < N → a ≠ b → (T a).2.1 ≠ (T b).2.1) (hmn : meth.name = "<init>") (q0 : Nat) (he : ws[q0]? = some (a, .inr (ci, fs))) (hc : vwCl[ci]? = some (CN, T, N)) (k : Nat) (hk : k < N) (hl : k < fs.length) (hlink : (Cond.fieldLink own index ref (T k).2.1 (T k).2.2.1).before args s = true) (hs6 : (T k).1 = ref ∧ (T k).2.2.2 = true ∧ (T k).1 = own) {v : Value} (hn : narrow (ty0 k) v = v) (hfit : fits (ty0 k) v = true) (hdg : decode cc pc = .ok (.putfield index, 3))
    (kk : ∀ (H1 : Heap) (locs1 : List Loc), IW g A s.heap (ws.set q0 (a, .inr (ci, fs.set k v))) H1 locs1 → W p l e R s m args below meth c H1 locs1 cells slots Q (F0 m (pc + 3) ls rest)) : W p l e R s m args below meth c H locs cells slots Q (F0 m pc ls (v :: .ref a :: rest)) :=
  va_putF (D := g.1) (ci := ci) (v := v) (ty := ty0 k) (C := CN) (T := T) (N := N) C.1.1 C.1.2.1 C.1.2.2.2.2 hin ty0 hty hnm C.1.2.2.2.1 C.2.1 hI.1 hI.2.1 hI.2.2.1 q0 he hc k hk hlink (fun _ h9 => by rw [hs6.1] at h9; exact h9) hs6.2.1 hmn hs6.2.2 (hty k hk) hn hfit hl hdg (fun H1 locs1 hP hD hS => kk H1 locs1 ⟨hP, hD, hS, hI.2.2.2⟩)
theorem n_get (C : CxN p s m args c cc nL Ts own g) (hI : IW g A s.heap ws H locs) (hin : ∀ w ∈ u_ws CN T N, w ∈ Ts) (q0 : Nat) (he : ws[q0]? = some (a, .inr (ci, fs))) (hc : vwCl[ci]? = some (CN, T, N)) (k : Nat) (hk : k < N) (hlink : (Cond.fieldLink own index ref (T k).2.1 (T k).2.2.1).before args s = true) (hs6 : (T k).1 = ref) {v : Value} (hv : fs[k]? = some v) (hdg : decode cc pc = .ok (.getfield index, 3))
    (kk : W p l e R s m args below meth c H locs cells slots Q (F0 m (pc + 3) ls (v :: rest))) : W p l e R s m args below meth c H locs cells slots Q (F0 m pc ls (.ref a :: rest)) :=
  va_get (D := g.1) (ci := ci) (v := v) (C := CN) (T := T) (N := N) C.1.1 C.1.2.1 C.1.2.2.2.2 hin C.1.2.2.2.1 C.2.1 hI.1 q0 he hc k hk hlink (fun _ h9 => by rw [hs6] at h9; exact h9) hv hdg kk
theorem n_ast {ti v cv : Nat} {r : vw_C} {vs : List Value} {f : Nat → Option Nat} (C : CxN p s m args c cc nL Ts own g) (hI : IW g A s.heap ws H locs) (q0 : Nat) (he : ws[q0]? = some (a, .inl (g.2.1 ti, n, .inr (.inr (.inr (.inr f)))))) (ht : (tyG g)[ti]? = some (g.2.1 ti, .object r.1)) (qk : Nat) (hv : ws[qk]? = some (v, .inr (cv, vs))) (hc : vwCl[cv]? = some r) {i : Int32} (hin : vp_in i n) (hdg : decode cc pc = .ok (.aastore, 1))
    (kk : ∀ (H1 : Heap) (locs1 : List Loc), IW g A s.heap (ws.set q0 (a, .inl (g.2.1 ti, n, .inr (.inr (.inr (.inr (va_up f i.toNatClampNeg (some v)))))))) H1 locs1 → W p l e R s m args below meth c H1 locs1 cells slots Q (F0 m (pc + 1) ls rest)) : W p l e R s m args below meth c H locs cells slots Q (F0 m pc ls (.ref v :: .int i :: .ref a :: rest)) :=
  va_astq C.1.1 C.1.2.1 C.2.1 hI.1 hI.2.1 hI.2.2.1 q0 ti qk cv he ht hv hc hin hdg (fun H1 locs1 hP hD hS => kk H1 locs1 ⟨hP, hD, hS, hI.2.2.2⟩)
theorem n_st {f : Nat → Int32} (C : CxN p s m args c cc nL Ts own g) (hI : IW g A s.heap ws H locs) (q0 : Nat) (he : ws[q0]? = some (a, .inl (g.2.1 0, n, .inl f))) {i x : Int32} (hin : vp_in i n) (hdg : decode cc pc = .ok (.iastore, 1))
    (kk : ∀ (H1 : Heap) (locs1 : List Loc), IW g A s.heap (ws.set q0 (a, .inl (g.2.1 0, n, .inl (upd f i.toNatClampNeg x)))) H1 locs1 → W p l e R s m args below meth c H1 locs1 cells slots Q (F0 m (pc + 1) ls rest)) : W p l e R s m args below meth c H locs cells slots Q (F0 m pc ls (.int x :: .int i :: .ref a :: rest)) :=
  va_iast C.1.1 C.1.2.1 C.2.1 hI.1 hI.2.1 hI.2.2.1 q0 0 he rfl hin hdg (fun H1 locs1 hP hD hS => kk H1 locs1 ⟨hP, hD, hS, hI.2.2.2⟩)
theorem pre_N (hK : va_K g.1 vwCl (tyG g) s) (hE : EI s) {w : va_W} (hP : va_P g.1 vwCl w H) (hD : va_D A w) {av : List Value} : ∀ U : State, U.heap = H → s.WarmedH U.vm → PcN g av w H.size av.toArray U :=
  fun U hU hW => ⟨rfl, by rw [hU], by rw [hU]; exact hP, va_K.moved hW.alike hK, hD.weaken (fun _ _ _ _ => trivial), hE.go hW⟩
theorem n_back (hI : IW g A s.heap (ws ++ [(b, x)]) H locs) {w1 : va_W} {H1 : Heap} {locs1 : List Loc} (hP1 : va_P g.1 vwCl w1 H1) (hD1 : va_D (va_A [(b, x)] H.size) w1) (hk : ∀ q : Nat, q < H.size → ¬ va_A [(b, x)] H.size q → H1[q]? = H[q]?) (hS : va_S A s.heap H1 locs1) (hF : ∀ q, va_A [(b, x)] H.size q → A q) : IW g A s.heap (ws ++ w1) H1 locs1 := by
  have hR : (List.range ws.length).map (fun i => (ws ++ [(b, x)])[i]?) = ws.map some := by
    apply List.ext_getElem?
    intro i
    simp only [List.getElem?_map]
    by_cases hi : i < ws.length
    · rw [List.getElem?_range hi, List.getElem?_eq_getElem hi]
      simp [List.getElem?_append_left hi, List.getElem?_eq_getElem hi]
    · have h1 : (List.range ws.length)[i]? = none := by simp; omega
      have h2 : ws[i]? = none := by simp; omega
      rw [h1, h2]; rfl
  have hnd : va_nd (List.range ws.length) = true := by
    have key : ∀ L : List Nat, L.Nodup → va_nd L = true := by
      intro L
      induction L with
      | nil => intro _; rfl
      | cons a t ih =>
        intro h
        rw [List.nodup_cons] at h
        simp [va_nd, ih h.2, h.1]
    exact key _ List.nodup_range
  obtain ⟨h1, h2⟩ := va_join (wc := [(b, x)]) (wr := ws) hI.1 hI.2.1 [ws.length] (List.range ws.length) (by simp) hR hnd (by intro i hi; rw [List.mem_range] at hi; simp; omega) hk hF hP1 hD1
  exact ⟨h1, h2, hS, hI.2.2.2⟩
theorem n_free (hI : IW g A s.heap (ws ++ [(b, x)]) H locs) : ∀ q, va_A [(b, x)] H.size q → A q :=
  va_free hI.2.1 hI.2.2.1 hI.2.2.2 [ws.length] (by simp)
theorem n_cutP (hI : IW g A s.heap (ws ++ [(b, x)]) H locs) : va_P g.1 vwCl [(b, x)] H ∧ va_D A [(b, x)] :=
  ⟨hI.1.sub [ws.length] (by simp), hI.2.1.sub [ws.length] (by simp [va_nd]) (by simp)⟩
theorem n_callI (hK : va_K g.1 vwCl (tyG g) s) (hE : EI s) (S : CallFix p m c cc nL s args Ts own) (hI : IW g A s.heap (ws ++ [(b, x)]) H locs) (hM : MetN l y wd rm g [.ref b] [(b, x)] wr mc ms) (cw : CallB R s args own index y bytes maxL none wd rm mc ms 0 ∧ y.name = "<init>" ∧ (Cond.instanceMethod y).before args s = true) (hs : ls.size = nL) (hW : (rest.map fun v => v.category).sum ≤ 8) (hdg : decode cc pc = .ok (.invokespecial index, 3)) (hf : cells + mc ≤ R.cells ∧ slots + ms ≤ R.slots)
    (kk : ∀ (u : Nat → Nat) (H1 : Heap) (locs1 : List Loc), IW g A s.heap (ws ++ wr u) H1 locs1 → W p l e R s m args below meth c H1 locs1 (cells + mc) (slots + ms) Q (F0 m (pc + 3) ls rest)) : W p l e R s m args below meth c H locs cells slots Q (F0 m pc ls (.ref b :: rest)) := by
  have hc := n_cutP hI
  refine va_callv (va_runI (As := []) (rest := rest) S (hM H.size) cw ⟨blind_N, pre_N hK hE hc.1 hc.2⟩ rfl rfl hs rfl (lv_room hW) hdg hf) hI.2.2.1 (fun q _ h => n_free hI q h) (n_free hI) (fun u t H1 locs1 ht hvm hw hB hz hk1 hS => ?_)
  exact kk u H1 locs1 (n_back hI (by rw [← ht]; exact hB.1) hB.2 hk1 hS (n_free hI))
theorem n_callN (hK : va_K g.1 vwCl (tyG g) s) (hE : EI s) (S : CallFix p m c cc nL s args Ts own) (hI : IW g A s.heap (ws ++ [(b, x)]) H locs) (hM : MetN l y wd rm g [.ref b] [(b, x)] wr mc ms) (cw : va_CN R s args own index y host bytes maxL none wd rm mc ms 0 ∧ y.name = "<init>" ∧ (Cond.instanceMethod y).before args s = true) (hs : ls.size = nL) (hW : (rest.map fun v => v.category).sum ≤ 8) (hdg : decode cc pc = .ok (.invokespecial index, 3)) (hf : cells + mc ≤ R.cells ∧ slots + ms ≤ R.slots)
    (kk : ∀ (u : Nat → Nat) (H1 : Heap) (locs1 : List Loc), IW g A s.heap (ws ++ wr u) H1 locs1 → W p l e R s m args below meth c H1 locs1 (cells + mc) (slots + ms) Q (F0 m (pc + 3) ls rest)) : W p l e R s m args below meth c H locs cells slots Q (F0 m pc ls (.ref b :: rest)) := by
  have hc := n_cutP hI
  refine va_callv (va_runIN (As := []) (rest := rest) S (hM H.size) cw ⟨blind_N, pre_N hK hE hc.1 hc.2⟩ rfl rfl hs rfl (lv_room hW) hdg hf) hI.2.2.1 (fun q _ h => n_free hI q h) (n_free hI) (fun u t H1 locs1 ht hvm hw hB hz hk1 hS => ?_)
  exact kk u H1 locs1 (n_back hI (by rw [← ht]; exact hB.1) hB.2 hk1 hS (n_free hI))
end Inits
