/-! the ground of all walks: states as functions, worlds out of states, contracts over a world, calls over them -/
def bnd {α β : Type} (x : α) (k : α → β) : β := k x
abbrev St : Type := Nat → Nat → Int32
def sU (st : St) (c j : Nat) (v : Int32) : St := fun c' => if c' = c then upd (st c) j v else st c'
def sF (st : St) (c : Nat) (f : Nat → Int32) : St := fun c' => if c' = c then f else st c'
def b2i (b : Bool) : Int32 := if b then 1 else 0
def ck {β : Type} (n : Nat) (i : Int32) (k : Nat → Option β) : Option β := if i < 0 ∨ n ≤ i.toNatClampNeg then none else k i.toNatClampNeg
def sto {β : Type} (n : Nat) (st : St) (c : Nat) (i x : Int32) (k : St → Option β) : Option β := ck n i fun j => k (sU st c j x)
def ush (x y : Int32) : Int32 := (x.toUInt32 >>> (y.toUInt32 &&& Int32.toUInt32 31)).toInt32
def acp {β : Type} (n0 n1 : Nat) (st : St) (c0 c1 : Nat) (sp dp n : Int32) (k : St → Option β) : Option β := if sp < 0 ∨ dp < 0 ∨ n < 0 ∨ n0 < sp.toNatClampNeg + n.toNatClampNeg ∨ n1 < dp.toNatClampNeg + n.toNatClampNeg then none else k (sF st c1 (va_cpy (st c0) (st c1) sp.toNatClampNeg dp.toNatClampNeg n.toNatClampNeg))
def imax (x y : Int32) : Int32 := if x < y then y else x
def imin (x y : Int32) : Int32 := if y < x then y else x
def iabs (x : Int32) : Int32 := if 0 ≤ x then x else 0 - x
def gz {β : Type} (v : Int32) (k : Bool → Option β) : Option β := if v = 0 then k false else if v = 1 then k true else none
def nz {β : Type} (v : Int32) (k : Option β) : Option β := if v = 0 then none else k
def bd1 {α β : Type} (o : Option α) (k : α → Option β) : Option β := o.bind k
def bd2 {α α' β : Type} (o : Option (α × α')) (k : α → α' → Option β) : Option β := o.bind fun q => k q.1 q.2
theorem ck_some {β : Type} {n : Nat} {i : Int32} {k : Nat → Option β} {r : β} (h : ck n i k = some r) : vp_in i n ∧ i.toNatClampNeg < n ∧ k i.toNatClampNeg = some r := by
  unfold ck at h
  by_cases hc : i < 0 ∨ n ≤ i.toNatClampNeg
  · rw [if_pos hc] at h; cases h
  · rw [if_neg hc] at h
    exact ⟨hc, Nat.lt_of_not_le (fun h2 => hc (Or.inr h2)), h⟩
theorem gz_some {β : Type} {v : Int32} {k : Bool → Option β} {r : β} (h : gz v k = some r) : ∃ b : Bool, v = b2i b ∧ k b = some r := by
  unfold gz at h
  by_cases h0 : v = 0
  · rw [if_pos h0] at h; exact ⟨false, h0, h⟩
  · rw [if_neg h0] at h
    by_cases h1 : v = 1
    · rw [if_pos h1] at h; exact ⟨true, h1, h⟩
    · rw [if_neg h1] at h; cases h
theorem nz_some {β : Type} {v : Int32} {k : Option β} {r : β} (h : nz v k = some r) : ¬ v = 0 ∧ k = some r := by
  unfold nz at h
  by_cases h0 : v = 0
  · rw [if_pos h0] at h; cases h
  · rw [if_neg h0] at h; exact ⟨h0, h⟩
theorem bd1_some {α β : Type} {o : Option α} {k : α → Option β} {r : β} (h : bd1 o k = some r) : ∃ a, o = some a ∧ k a = some r := by
  unfold bd1 at h
  cases o with
  | none => cases h
  | some a => exact ⟨a, rfl, h⟩
theorem bd2_some {α α' β : Type} {o : Option (α × α')} {k : α → α' → Option β} {r : β} (h : bd2 o k = some r) : ∃ a b, o = some (a, b) ∧ k a b = some r := by
  unfold bd2 at h
  cases o with
  | none => cases h
  | some a => exact ⟨a.1, a.2, rfl, h⟩
theorem tab_ne {x : Int32} (k : Int32) (h : ¬ x = k) : x.toInt ≠ k.toInt := fun e => h (Int32.toInt_inj.mp e)
theorem tab_out4 {x : Int32} (h0 : ¬ x = 0) (h1 : ¬ x = 1) (h2 : ¬ x = 2) (h3 : ¬ x = 3) : x.toInt < 0 ∨ 3 < x.toInt := by
  have a0 : x.toInt ≠ 0 := tab_ne 0 h0
  have a1 : x.toInt ≠ 1 := tab_ne 1 h1
  have a2 : x.toInt ≠ 2 := tab_ne 2 h2
  have a3 : x.toInt ≠ 3 := tab_ne 3 h3
  omega
theorem tab_out8 {x : Int32} (h0 : ¬ x = 0) (h1 : ¬ x = 1) (h2 : ¬ x = 2) (h3 : ¬ x = 3) (h4 : ¬ x = 4) (h5 : ¬ x = 5) (h6 : ¬ x = 6) (h7 : ¬ x = 7) : x.toInt < 0 ∨ 7 < x.toInt := by
  have a0 : x.toInt ≠ 0 := tab_ne 0 h0
  have a1 : x.toInt ≠ 1 := tab_ne 1 h1
  have a2 : x.toInt ≠ 2 := tab_ne 2 h2
  have a3 : x.toInt ≠ 3 := tab_ne 3 h3
  have a4 : x.toInt ≠ 4 := tab_ne 4 h4
  have a5 : x.toInt ≠ 5 := tab_ne 5 h5
  have a6 : x.toInt ≠ 6 := tab_ne 6 h6
  have a7 : x.toInt ≠ 7 := tab_ne 7 h7
  omega
theorem ret1 {α : Type} {a b : α} (h : some a = some b) : a = b := Option.some.inj h
theorem ret2 {α β : Type} {a c : α} {b d : β} (h : some (a, b) = some (c, d)) : a = c ∧ b = d := Prod.mk.inj (Option.some.inj h)
theorem nar_b (b : Bool) : narrow .boolean (.int (b2i b)) = .int (b2i b) := by cases b <;> rfl
theorem vpk {i : Int32} {n : Nat} (h : decide (i < 0 ∨ n ≤ i.toNatClampNeg) = false) : vp_in i n := of_decide_eq_false h
abbrev GP : Type := va_G × (Nat → ClassId) × Nat
def tyG (g : GP) : List (ClassId × FieldType) := [(g.2.1 0, .int), (g.2.1 1, .boolean), (g.2.1 2, .object "GraveRows$Grave"), (g.2.1 3, .object "GraveRows$Sheet")]
def kai (j : Nat) : Int32 := match j with | 0 => -1 | 1 => 0 | 2 => 0 | _ => 1
def EV (g : GP) (A : Nat → Prop) (U : State) (H : Heap) : Prop := va_Nw (.methodLinkNest RX2 61 yX5_isIn RX5) U ∧ va_Nw (.methodLinkNest RX3 84 yX5_isIn RX5) U ∧ va_Z "GraveRows$Grave" "KIND_ABOVE" "[I" (.ref g.2.2) A U H ∧ va_T .int g.2.2 4 (fun j => .int (kai j)) A U H
theorem EV.go {g : GP} {A A1 : Nat → Prop} {s U : State} {H H1 : Heap} (hE : EV g A s H) (hW : s.WarmedH U.vm) (hk : ∀ a : Nat, a < H.size → ¬ A a → H1[a]? = H[a]?) (hA : ∀ q, A1 q → A q) : EV g A1 U H1 :=
  ⟨va_Nw.warmM hW hE.1, va_Nw.warmM hW hE.2.1, ((hE.2.2.1.moved hW.alike).kept hk).narrow hA, ((hE.2.2.2.moved hW.alike).kept hk).narrow hA⟩
def IW (g : GP) (A : Nat → Prop) (H0 : Heap) (ws : va_W) (H : Heap) (locs : List Loc) : Prop := va_P g.1 vwCl ws H ∧ va_D A ws ∧ va_S A H0 H locs ∧ ∀ q : Nat, H0.size ≤ q → A q
def PcG (g : GP) (av : List Value) (ws : va_W) (sz : Nat) : Array Value → State → Prop := va_Pc av (fun U => U.heap.size = sz ∧ va_P g.1 vwCl ws U.heap ∧ va_K g.1 vwCl (tyG g) U ∧ va_D (fun _ => True) ws ∧ EV g (va_A ws sz) U U.heap)
theorem free_all {g : GP} {A : Nat → Prop} {H0 H : Heap} {ws : va_W} {locs : List Loc} (hI : IW g A H0 ws H locs) : ∀ q, va_A ws H.size q → A q := by
  obtain ⟨hP, hD, hS, hA⟩ := hI
  intro q h
  rcases h with ⟨k, e, h⟩ | h
  · exact hD.2 k _ h
  · exact hA q (Nat.le_trans hS.1 h)
def MetI (l : Launch) (y : MethodName) (wd : List Cond) (rm : Room) (g : GP) (wf : St → va_W) (av : List Value) (st : St) (r : Int32) (st' : St) : Prop := ∀ sz : Nat, Met l y wd rm (PcG g av (wf st) sz) (va_Qi (fun (x : Int32) (_ : Unit) => x = r) (fun _ t => va_P g.1 vwCl (wf st') t.heap ∧ va_D (va_A (wf st) sz) (wf st')) (va_A (wf st) sz)) 0 0 (va_A (wf st) sz)
def MetL (l : Launch) (y : MethodName) (wd : List Cond) (rm : Room) (g : GP) (wf : St → va_W) (av : List Value) (st : St) (r : Int64) (st' : St) : Prop := ∀ sz : Nat, Met l y wd rm (PcG g av (wf st) sz) (va_Ql (fun (x : Int64) (_ : Unit) => x = r) (fun _ t => va_P g.1 vwCl (wf st') t.heap ∧ va_D (va_A (wf st) sz) (wf st')) (va_A (wf st) sz)) 0 0 (va_A (wf st) sz)
def MetV (l : Launch) (y : MethodName) (wd : List Cond) (rm : Room) (g : GP) (wf : St → va_W) (av : List Value) (st : St) (st' : St) : Prop := ∀ sz : Nat, Met l y wd rm (PcG g av (wf st) sz) (va_Qv (fun (_ : Unit) => True) (fun _ t => va_P g.1 vwCl (wf st') t.heap ∧ va_D (va_A (wf st) sz) (wf st')) (va_A (wf st) sz)) 0 0 (va_A (wf st) sz)
def MetR (l : Launch) (y : MethodName) (wd : List Cond) (rm : Room) (g : GP) (wf : St → va_W) (av : List Value) (st : St) (r : Nat) (st' : St) : Prop := ∀ sz : Nat, Met l y wd rm (PcG g av (wf st) sz) (va_Qr (fun (_ : Unit) => True) (fun _ a t => a = r ∧ va_P g.1 vwCl (wf st') t.heap ∧ va_D (va_A (wf st) sz) (wf st')) (va_A (wf st) sz)) 0 0 (va_A (wf st) sz)
def MetS (l : Launch) (y : MethodName) (wd : List Cond) (rm : Room) (av : List Value) (r : Int32) : Prop := Met l y wd rm (fun v _ => v = av.toArray) (QcRead r) 0 0 (fun _ => False)
/-- what a walk stands on: the machine, the words, the kinds, what lies outside -/
def Cx (p : Program) (s : State) (m : MethodId) (args : Array Value) (c : Code) (cc : ByteArray) (nL : Nat) (wd : List Cond) (own : String) (g : GP) (A : Nat → Prop) : Prop := CallFix p m c cc nL s args wd own ∧ va_K g.1 vwCl (tyG g) s ∧ EV g A s s.heap
def RetI (p : Program) (l : Launch) (e : Env) (R : Room) (s : State) (m : MethodId) (args : Array Value) (below : List Frame) (meth : Method) (c : Code) (Q : State → Prop) (cc : ByteArray) (g : GP) (A : Nat → Prop) (ws : va_W) (r : Int32) : Prop :=
  ∀ (H : Heap) (locs : List Loc) (pc : Nat) (ls : Array Slot), IW g A s.heap ws H locs → decode cc pc = .ok (.ireturn, 1) → W p l e R s m args below meth c H locs 0 0 Q (F0 m pc ls [.int r])
def RetL (p : Program) (l : Launch) (e : Env) (R : Room) (s : State) (m : MethodId) (args : Array Value) (below : List Frame) (meth : Method) (c : Code) (Q : State → Prop) (cc : ByteArray) (g : GP) (A : Nat → Prop) (ws : va_W) (r : Int64) : Prop :=
  ∀ (H : Heap) (locs : List Loc) (pc : Nat) (ls : Array Slot), IW g A s.heap ws H locs → decode cc pc = .ok (.lreturn, 1) → W p l e R s m args below meth c H locs 0 0 Q (F0 m pc ls [.long r])
def RetR (p : Program) (l : Launch) (e : Env) (R : Room) (s : State) (m : MethodId) (args : Array Value) (below : List Frame) (meth : Method) (c : Code) (Q : State → Prop) (cc : ByteArray) (g : GP) (A : Nat → Prop) (ws : va_W) (r : Nat) : Prop :=
  ∀ (H : Heap) (locs : List Loc) (pc : Nat) (ls : Array Slot), IW g A s.heap ws H locs → decode cc pc = .ok (.areturn, 1) → W p l e R s m args below meth c H locs 0 0 Q (F0 m pc ls [.ref r])
def RetV (p : Program) (l : Launch) (e : Env) (R : Room) (s : State) (m : MethodId) (args : Array Value) (below : List Frame) (meth : Method) (c : Code) (Q : State → Prop) (cc : ByteArray) (g : GP) (A : Nat → Prop) (ws : va_W) : Prop :=
  ∀ (H : Heap) (locs : List Loc) (pc : Nat) (ls : Array Slot), IW g A s.heap ws H locs → decode cc pc = .ok (.return_, 1) → W p l e R s m args below meth c H locs 0 0 Q (F0 m pc ls [])
def RetS (p : Program) (l : Launch) (e : Env) (R : Room) (s : State) (m : MethodId) (args : Array Value) (below : List Frame) (meth : Method) (c : Code) (Q : State → Prop) (cc : ByteArray) (r : Int32) : Prop :=
  ∀ (pc : Nat) (ls : Array Slot), decode cc pc = .ok (.ireturn, 1) → W p l e R s m args below meth c s.heap [] 0 0 Q (F0 m pc ls [.int r])
theorem metS_of {l : Launch} {y : MethodName} {wd wd' : List Cond} {rm : Room} {av : List Value} {r : Int32} {cc : ByteArray} {nL : Nat} {ty : FieldType} (hpl : plainName y.cls = true) (hw : wd = Cond.code y cc nL (some ty) :: wd') (hn : (lg_sl av).length ≤ nL) (hnar : narrow ty (.int r) = .int r)
    (body : ∀ (p : Program) (e : Env) (s : State) (m : MethodId) (below : List Frame) (meth : Method) (c : Code) (Q : State → Prop), CallFix p m c cc nL s av.toArray wd y.cls → RetS p l e rm s m av.toArray below meth c Q cc r →
      ∀ ls : Array Slot, lv_has ls nL (lv_args 0 av) → W p l e rm s m av.toArray below meth c s.heap [] 0 0 Q (F0 m 0 ls [])) : MetS l y wd rm av r := by
  refine Met.ofW (cc := cc) (maxL := nL) (ret := some ty) hpl hw ?_
  intro p e s m args below meth c s₁ B hml hv
  subst hv
  have hx := B.exec
  have hb := B.bytes
  have hr := B.returns
  have hts := atoms_spec (ws := wd) B.pre
  have hown : s.vm.findClass y.cls = some m.cls := findClass_of_methodNamed B.named
  have hlocks := B.notSynchronized
  have hl := lv_entry av (n := nL) hn
  rw [lg_entry_eq]
  refine body p e s m below meth c _ ⟨hx, hb, hml, hown, hts⟩ ?_ _ hl
  intro pc ls hdg
  exact W.zret hx hb hr hnar (fun t ht hW => ⟨rfl, ht⟩) (fun q h => absurd h List.not_mem_nil) hdg
theorem metI_of {l : Launch} {y : MethodName} {wd wd' : List Cond} {rm : Room} {g : GP} {wf : St → va_W} {av : List Value} {st st' : St} {r : Int32} {cc : ByteArray} {nL : Nat} {ty : FieldType} (hpl : plainName y.cls = true) (hw : wd = Cond.code y cc nL (some ty) :: wd') (hn : (lg_sl av).length ≤ nL) (hnar : narrow ty (.int r) = .int r)
    (body : ∀ (p : Program) (e : Env) (s : State) (m : MethodId) (below : List Frame) (meth : Method) (c : Code) (Q : State → Prop) (A : Nat → Prop), Cx p s m av.toArray c cc nL wd y.cls g A → RetI p l e rm s m av.toArray below meth c Q cc g A (wf st') r →
      ∀ (H : Heap) (locs : List Loc), IW g A s.heap (wf st) H locs → ∀ ls : Array Slot, lv_has ls nL (lv_args 0 av) → W p l e rm s m av.toArray below meth c H locs 0 0 Q (F0 m 0 ls [])) : MetI l y wd rm g wf av st r st' := by
  intro sz
  refine Met.ofW (cc := cc) (maxL := nL) (ret := some ty) hpl hw ?_
  intro p e s m args below meth c s₁ B hml hv
  obtain ⟨rfl, hsz, hP, hK, hD0, hE⟩ := hv
  have hx := B.exec
  have hb := B.bytes
  have hr := B.returns
  have hts := atoms_spec (ws := wd) B.pre
  have hown : s.vm.findClass y.cls = some m.cls := findClass_of_methodNamed B.named
  have hlocks := B.notSynchronized
  subst hsz
  have hD := hD0.self (sz := s.heap.size)
  have hA : ∀ q : Nat, s.heap.size ≤ q → va_A (wf st) s.heap.size q := fun q h => Or.inr h
  have hl := lv_entry av (n := nL) hn
  rw [lg_entry_eq]
  refine body p e s m below meth c _ (va_A (wf st) s.heap.size) ⟨⟨hx, hb, hml, hown, hts⟩, hK, hE⟩ ?_ s.heap [] ⟨hP, hD, va_S.rf, hA⟩ _ hl
  intro H locs pc ls hI hdg
  obtain ⟨hP, hD, hS, -⟩ := hI
  exact W.zret hx hb hr hnar (fun t ht hW => ⟨⟨r, (), rfl, rfl, by rw [ht]; exact hP, hD⟩, hS.F ht⟩) hS.2.2 hdg
theorem metL_of {l : Launch} {y : MethodName} {wd wd' : List Cond} {rm : Room} {g : GP} {wf : St → va_W} {av : List Value} {st st' : St} {r : Int64} {cc : ByteArray} {nL : Nat} (hpl : plainName y.cls = true) (hw : wd = Cond.code y cc nL (some .long) :: wd') (hn : (lg_sl av).length ≤ nL)
    (body : ∀ (p : Program) (e : Env) (s : State) (m : MethodId) (below : List Frame) (meth : Method) (c : Code) (Q : State → Prop) (A : Nat → Prop), Cx p s m av.toArray c cc nL wd y.cls g A → RetL p l e rm s m av.toArray below meth c Q cc g A (wf st') r →
      ∀ (H : Heap) (locs : List Loc), IW g A s.heap (wf st) H locs → ∀ ls : Array Slot, lv_has ls nL (lv_args 0 av) → W p l e rm s m av.toArray below meth c H locs 0 0 Q (F0 m 0 ls [])) : MetL l y wd rm g wf av st r st' := by
  intro sz
  refine Met.ofW (cc := cc) (maxL := nL) (ret := some .long) hpl hw ?_
  intro p e s m args below meth c s₁ B hml hv
  obtain ⟨rfl, hsz, hP, hK, hD0, hE⟩ := hv
  have hx := B.exec
  have hb := B.bytes
  have hr := B.returns
  have hts := atoms_spec (ws := wd) B.pre
  have hown : s.vm.findClass y.cls = some m.cls := findClass_of_methodNamed B.named
  have hlocks := B.notSynchronized
  subst hsz
  have hD := hD0.self (sz := s.heap.size)
  have hA : ∀ q : Nat, s.heap.size ≤ q → va_A (wf st) s.heap.size q := fun q h => Or.inr h
  have hl := lv_entry av (n := nL) hn
  rw [lg_entry_eq]
  refine body p e s m below meth c _ (va_A (wf st) s.heap.size) ⟨⟨hx, hb, hml, hown, hts⟩, hK, hE⟩ ?_ s.heap [] ⟨hP, hD, va_S.rf, hA⟩ _ hl
  intro H locs pc ls hI hdg
  obtain ⟨hP, hD, hS, -⟩ := hI
  exact W.lret hx hb hr (fun t ht hW => ⟨⟨r, (), rfl, rfl, by rw [ht]; exact hP, hD⟩, hS.F ht⟩) hS.2.2 hdg
theorem metV_of {l : Launch} {y : MethodName} {wd wd' : List Cond} {rm : Room} {g : GP} {wf : St → va_W} {av : List Value} {st st' : St} {cc : ByteArray} {nL : Nat} (hpl : plainName y.cls = true) (hw : wd = Cond.code y cc nL none :: wd') (hn : (lg_sl av).length ≤ nL)
    (body : ∀ (p : Program) (e : Env) (s : State) (m : MethodId) (below : List Frame) (meth : Method) (c : Code) (Q : State → Prop) (A : Nat → Prop), Cx p s m av.toArray c cc nL wd y.cls g A → RetV p l e rm s m av.toArray below meth c Q cc g A (wf st') →
      ∀ (H : Heap) (locs : List Loc), IW g A s.heap (wf st) H locs → ∀ ls : Array Slot, lv_has ls nL (lv_args 0 av) → W p l e rm s m av.toArray below meth c H locs 0 0 Q (F0 m 0 ls [])) : MetV l y wd rm g wf av st st' := by
  intro sz
  refine Met.ofW (cc := cc) (maxL := nL) (ret := none) hpl hw ?_
  intro p e s m args below meth c s₁ B hml hv
  obtain ⟨rfl, hsz, hP, hK, hD0, hE⟩ := hv
  have hx := B.exec
  have hb := B.bytes
  have hr := B.returns
  have hts := atoms_spec (ws := wd) B.pre
  have hown : s.vm.findClass y.cls = some m.cls := findClass_of_methodNamed B.named
  have hlocks := B.notSynchronized
  subst hsz
  have hD := hD0.self (sz := s.heap.size)
  have hA : ∀ q : Nat, s.heap.size ≤ q → va_A (wf st) s.heap.size q := fun q h => Or.inr h
  have hl := lv_entry av (n := nL) hn
  rw [lg_entry_eq]
  refine body p e s m below meth c _ (va_A (wf st) s.heap.size) ⟨⟨hx, hb, hml, hown, hts⟩, hK, hE⟩ ?_ s.heap [] ⟨hP, hD, va_S.rf, hA⟩ _ hl
  intro H locs pc ls hI hdg
  obtain ⟨hP, hD, hS, -⟩ := hI
  exact W.vret hx hb hr (fun t ht hW => ⟨⟨(), rfl, trivial, by rw [ht]; exact hP, hD⟩, hS.F ht⟩) hS.2.2 hdg
theorem metR_of {l : Launch} {y : MethodName} {wd wd' : List Cond} {rm : Room} {g : GP} {wf : St → va_W} {av : List Value} {st st' : St} {r : Nat} {cc : ByteArray} {nL : Nat} {ty : FieldType} (hpl : plainName y.cls = true) (hw : wd = Cond.code y cc nL (some (.array ty)) :: wd') (hn : (lg_sl av).length ≤ nL)
    (body : ∀ (p : Program) (e : Env) (s : State) (m : MethodId) (below : List Frame) (meth : Method) (c : Code) (Q : State → Prop) (A : Nat → Prop), Cx p s m av.toArray c cc nL wd y.cls g A → RetR p l e rm s m av.toArray below meth c Q cc g A (wf st') r →
      ∀ (H : Heap) (locs : List Loc), IW g A s.heap (wf st) H locs → ∀ ls : Array Slot, lv_has ls nL (lv_args 0 av) → W p l e rm s m av.toArray below meth c H locs 0 0 Q (F0 m 0 ls [])) : MetR l y wd rm g wf av st r st' := by
  intro sz
  refine Met.ofW (cc := cc) (maxL := nL) (ret := some (.array ty)) hpl hw ?_
  intro p e s m args below meth c s₁ B hml hv
  obtain ⟨rfl, hsz, hP, hK, hD0, hE⟩ := hv
  have hx := B.exec
  have hb := B.bytes
  have hr := B.returns
  have hts := atoms_spec (ws := wd) B.pre
  have hown : s.vm.findClass y.cls = some m.cls := findClass_of_methodNamed B.named
  have hlocks := B.notSynchronized
  subst hsz
  have hD := hD0.self (sz := s.heap.size)
  have hA : ∀ q : Nat, s.heap.size ≤ q → va_A (wf st) s.heap.size q := fun q h => Or.inr h
  have hl := lv_entry av (n := nL) hn
  rw [lg_entry_eq]
  refine body p e s m below meth c _ (va_A (wf st) s.heap.size) ⟨⟨hx, hb, hml, hown, hts⟩, hK, hE⟩ ?_ s.heap [] ⟨hP, hD, va_S.rf, hA⟩ _ hl
  intro H locs pc ls hI hdg
  obtain ⟨hP, hD, hS, -⟩ := hI
  exact W.aret hx hb hr (Or.inr ⟨_, rfl⟩) (Or.inr ⟨_, rfl⟩) (fun t ht hW => ⟨⟨(), r, rfl, trivial, rfl, by rw [ht]; exact hP, hD⟩, hS.F ht⟩) hS.2.2 hdg
theorem metS_ofF {l : Launch} {y : MethodName} {wd wd' : List Cond} {rm : Room} {av : List Value} {r : Int32} {cc : ByteArray} {nL : Nat} {ty : FieldType} (hpl : plainFor y = true) (hw : wd = Cond.code y cc nL (some ty) :: wd') (hn : (lg_sl av).length ≤ nL) (hnar : narrow ty (.int r) = .int r)
    (body : ∀ (p : Program) (e : Env) (s : State) (m : MethodId) (below : List Frame) (meth : Method) (c : Code) (Q : State → Prop), CallFix p m c cc nL s av.toArray wd y.cls → RetS p l e rm s m av.toArray below meth c Q cc r →
      ∀ ls : Array Slot, lv_has ls nL (lv_args 0 av) → W p l e rm s m av.toArray below meth c s.heap [] 0 0 Q (F0 m 0 ls [])) : MetS l y wd rm av r := by
  refine va_MetF (cc := cc) (maxL := nL) (ret := some ty) hpl hw ?_
  intro p e s m args below meth c s₁ B hml hv
  subst hv
  have hx := B.exec
  have hb := B.bytes
  have hr := B.returns
  have hts := atoms_spec (ws := wd) B.pre
  have hown : s.vm.findClass y.cls = some m.cls := findClass_of_methodNamed B.named
  have hlocks := B.notSynchronized
  have hl := lv_entry av (n := nL) hn
  rw [lg_entry_eq]
  refine body p e s m below meth c _ ⟨hx, hb, hml, hown, hts⟩ ?_ _ hl
  intro pc ls hdg
  exact W.zret hx hb hr hnar (fun t ht hW => ⟨rfl, ht⟩) (fun q h => absurd h List.not_mem_nil) hdg
theorem blind_G {g : GP} {av : List Value} {ws : va_W} {sz : Nat} : FrameBlind (PcG g av ws sz) := by
  intro a U g' mk q
  obtain ⟨q0, q1, qP, qK, qD, qE⟩ := q
  exact ⟨q0, q1, qP, va_K.moved (u := U) (U := U.calling g' mk a) (Vm.Alike.refl U.vm) qK, qD, va_Nw.same rfl (rfl : U.vm = (U.calling g' mk a).vm) qE.1, va_Nw.same rfl (rfl : U.vm = (U.calling g' mk a).vm) qE.2.1, va_Z.moved (u := U) (U := U.calling g' mk a) (Vm.Alike.refl U.vm) qE.2.2.1, va_T.moved (u := U) (U := U.calling g' mk a) (Vm.Alike.refl U.vm) qE.2.2.2⟩
section Calls
variable {p : Program} {l : Launch} {e : Env} {R : Room} {s : State} {m : MethodId} {args : Array Value} {below : List Frame} {meth : Method} {c : Code} {H : Heap} {locs : List Loc} {Q : State → Prop} {cc bytes : ByteArray} {pc nL maxL n index b : Nat} {ls : Array Slot} {st0 rest As : List Value} {g : GP} {A : Nat → Prop} {Ts ws : List Cond} {own C host : String} {y : MethodName} {ret : Option FieldType} {rm : Room} {wf : St → va_W} {st st' : St}
theorem pre_G (X : Cx p s m args c cc nL Ts own g A) {w : va_W} (hI : IW g A s.heap w H locs) {av : List Value} : ∀ U : State, U.heap = H → s.WarmedH U.vm → PcG g av w H.size av.toArray U :=
  fun U hU hW => ⟨rfl, by rw [hU], by rw [hU]; exact hI.1, va_K.moved hW.alike X.2.1, hI.2.1.weaken (fun _ _ _ _ => trivial), by rw [hU]; exact X.2.2.go hW hI.2.2.1.2.1 (free_all hI)⟩
theorem callV_I {r : Int32} (X : Cx p s m args c cc nL Ts own g A) (hI : IW g A s.heap (wf st) H locs) (hM : MetI l y ws rm g wf (.ref b :: As) st r st') (cw : CallW R s args own C index y bytes maxL ret ws rm 0 0 n) (hv : ∃ cell : Cell, H[b]? = some cell ∧ cell.vm.isStatics = false ∧ s.vm.findClass C = some cell.cls) (hn : As.length = n) (hs : ls.size = nL) (hk : st0 = As.reverse ++ .ref b :: rest) (hW : (rest.map fun v => v.category).sum ≤ 8) (hdg : decode cc pc = .ok (.invokevirtual index, 3))
    (kk : ∀ (H1 : Heap) (locs1 : List Loc), IW g A s.heap (wf st') H1 locs1 → W p l e R s m args below meth c H1 locs1 0 0 Q (F0 m (pc + 3) ls (.int r :: rest))) : W p l e R s m args below meth c H locs 0 0 Q (F0 m pc ls st0) := by
  refine va_calli (va_runV (As := As) (rest := rest) X.1 (hM H.size) cw ⟨blind_G, hv, pre_G X hI⟩ rfl hn hs hk (lv_room hW) hdg ⟨Nat.zero_le _, Nat.zero_le _⟩) hI.2.2.1 (fun q _ h => free_all hI q h) (free_all hI) (fun r' u t H1 locs1 ht hvm hw hB hz hk1 hS => ?_)
  subst hw
  exact kk H1 locs1 ⟨by rw [← ht]; exact hB.1, hB.2.weaken (fun _ _ _ h => free_all hI _ h), hS, hI.2.2.2⟩
theorem callV_L {r : Int64} (X : Cx p s m args c cc nL Ts own g A) (hI : IW g A s.heap (wf st) H locs) (hM : MetL l y ws rm g wf (.ref b :: As) st r st') (cw : CallW R s args own C index y bytes maxL ret ws rm 0 0 n) (hv : ∃ cell : Cell, H[b]? = some cell ∧ cell.vm.isStatics = false ∧ s.vm.findClass C = some cell.cls) (hn : As.length = n) (hs : ls.size = nL) (hk : st0 = As.reverse ++ .ref b :: rest) (hW : (rest.map fun v => v.category).sum ≤ 8) (hdg : decode cc pc = .ok (.invokevirtual index, 3))
    (kk : ∀ (H1 : Heap) (locs1 : List Loc), IW g A s.heap (wf st') H1 locs1 → W p l e R s m args below meth c H1 locs1 0 0 Q (F0 m (pc + 3) ls (.long r :: rest))) : W p l e R s m args below meth c H locs 0 0 Q (F0 m pc ls st0) := by
  refine va_calll (va_runV (As := As) (rest := rest) X.1 (hM H.size) cw ⟨blind_G, hv, pre_G X hI⟩ rfl hn hs hk (lv_room hW) hdg ⟨Nat.zero_le _, Nat.zero_le _⟩) hI.2.2.1 (fun q _ h => free_all hI q h) (free_all hI) (fun r' u t H1 locs1 ht hvm hw hB hz hk1 hS => ?_)
  subst hw
  exact kk H1 locs1 ⟨by rw [← ht]; exact hB.1, hB.2.weaken (fun _ _ _ h => free_all hI _ h), hS, hI.2.2.2⟩
theorem callV_V (X : Cx p s m args c cc nL Ts own g A) (hI : IW g A s.heap (wf st) H locs) (hM : MetV l y ws rm g wf (.ref b :: As) st st') (cw : CallW R s args own C index y bytes maxL ret ws rm 0 0 n) (hv : ∃ cell : Cell, H[b]? = some cell ∧ cell.vm.isStatics = false ∧ s.vm.findClass C = some cell.cls) (hn : As.length = n) (hs : ls.size = nL) (hk : st0 = As.reverse ++ .ref b :: rest) (hW : (rest.map fun v => v.category).sum ≤ 8) (hdg : decode cc pc = .ok (.invokevirtual index, 3))
    (kk : ∀ (H1 : Heap) (locs1 : List Loc), IW g A s.heap (wf st') H1 locs1 → W p l e R s m args below meth c H1 locs1 0 0 Q (F0 m (pc + 3) ls rest)) : W p l e R s m args below meth c H locs 0 0 Q (F0 m pc ls st0) := by
  refine va_callv (va_runV (As := As) (rest := rest) X.1 (hM H.size) cw ⟨blind_G, hv, pre_G X hI⟩ rfl hn hs hk (lv_room hW) hdg ⟨Nat.zero_le _, Nat.zero_le _⟩) hI.2.2.1 (fun q _ h => free_all hI q h) (free_all hI) (fun u t H1 locs1 ht hvm hw hB hz hk1 hS => ?_)
  exact kk H1 locs1 ⟨by rw [← ht]; exact hB.1, hB.2.weaken (fun _ _ _ h => free_all hI _ h), hS, hI.2.2.2⟩
theorem callV_R {r : Nat} (X : Cx p s m args c cc nL Ts own g A) (hI : IW g A s.heap (wf st) H locs) (hM : MetR l y ws rm g wf (.ref b :: As) st r st') (cw : CallW R s args own C index y bytes maxL ret ws rm 0 0 n) (hv : ∃ cell : Cell, H[b]? = some cell ∧ cell.vm.isStatics = false ∧ s.vm.findClass C = some cell.cls) (hn : As.length = n) (hs : ls.size = nL) (hk : st0 = As.reverse ++ .ref b :: rest) (hW : (rest.map fun v => v.category).sum ≤ 8) (hdg : decode cc pc = .ok (.invokevirtual index, 3))
    (kk : ∀ (H1 : Heap) (locs1 : List Loc), IW g A s.heap (wf st') H1 locs1 → W p l e R s m args below meth c H1 locs1 0 0 Q (F0 m (pc + 3) ls (.ref r :: rest))) : W p l e R s m args below meth c H locs 0 0 Q (F0 m pc ls st0) := by
  refine va_callr (va_runV (As := As) (rest := rest) X.1 (hM H.size) cw ⟨blind_G, hv, pre_G X hI⟩ rfl hn hs hk (lv_room hW) hdg ⟨Nat.zero_le _, Nat.zero_le _⟩) hI.2.2.1 (fun q _ h => free_all hI q h) (free_all hI) (fun u ra t H1 locs1 ht hvm hw hB hz hk1 hS => ?_)
  obtain ⟨rfl, hB1, hB2⟩ := hB
  exact kk H1 locs1 ⟨by rw [← ht]; exact hB1, hB2.weaken (fun _ _ _ h => free_all hI _ h), hS, hI.2.2.2⟩
theorem callS_S {r : Int32} (S : CallFix p m c cc nL s args Ts own) (hM : MetS l y ws rm As r) (cw : CallB R s args own index y bytes maxL ret ws rm 0 0 n ∧ (Cond.static y).before args s = true) (hn : As.length = n) (hs : ls.size = nL) (hk : st0 = As.reverse ++ rest) (hW : (rest.map fun v => v.category).sum ≤ 8) (hdg : decode cc pc = .ok (.invokestatic index, 3))
    (kk : W p l e R s m args below meth c H locs 0 0 Q (F0 m (pc + 3) ls (.int r :: rest))) : W p l e R s m args below meth c H locs 0 0 Q (F0 m pc ls st0) :=
  W.callR (va_Run.run (va_runS (As := As) (rest := rest) S hM cw preEq rfl hn hs hk (lv_room hW) hdg ⟨Nat.zero_le _, Nat.zero_le _⟩)) kk
theorem callN_S {r : Int32} (S : CallFix p m c cc nL s args Ts own) (hM : MetS l y ws rm As r) (cw : va_CN R s args own index y host bytes maxL ret ws rm 0 0 n ∧ (Cond.static y).before args s = true ∧ True) (hn : As.length = n) (hs : ls.size = nL) (hk : st0 = As.reverse ++ rest) (hW : (rest.map fun v => v.category).sum ≤ 8) (hdg : decode cc pc = .ok (.invokestatic index, 3))
    (kk : W p l e R s m args below meth c H locs 0 0 Q (F0 m (pc + 3) ls (.int r :: rest))) : W p l e R s m args below meth c H locs 0 0 Q (F0 m pc ls st0) :=
  W.callR (va_Run.run (va_runSN (As := As) (rest := rest) S hM cw preEq rfl hn hs hk (lv_room hW) hdg ⟨Nat.zero_le _, Nat.zero_le _⟩)) kk
end Calls
/-! the reference's world: its object, its ten rows of ints -/
def mlen (c : Nat) : Nat := match c with | 0 => 116 | 1 => 116 | 2 => 4 | 3 => 4 | 4 => 48 | 5 => 12 | 6 => 10 | 7 => 10 | 8 => 11 | _ => 10
def mfs (am : Nat → Nat) (ms : St) : List Value := [.ref (am 1), .ref (am 2), .int (ms 10 0), .int (ms 10 1), .ref (am 3), .ref (am 4), .ref (am 5), .ref (am 6), .int (ms 10 2), .int (ms 10 3), .ref (am 7), .ref (am 8), .ref (am 9), .ref (am 10), .int (ms 10 4), .int (ms 10 5)]
def wM (g : GP) (am : Nat → Nat) (ms : St) : va_W := (am 0, .inr (6, mfs am ms)) :: (List.range 10).map (fun c => (am (c + 1), .inl (g.2.1 0, mlen c, .inl (ms c))))
def wMX (g : GP) (X : va_W) (am : Nat → Nat) (ms : St) : va_W := X ++ wM g am ms
theorem wM_ob {g : GP} {X : va_W} {am : Nat → Nat} {ms : St} : (wMX g X am ms)[X.length]? = some (am 0, .inr (6, mfs am ms)) := by
  unfold wMX wM
  rw [List.getElem?_append_right (Nat.le_refl _), Nat.sub_self]
  rfl
theorem wM_ar {g : GP} {X : va_W} {am : Nat → Nat} {ms : St} {cn : Nat} (hc : cn < 10) : (wMX g X am ms)[X.length + (cn + 1)]? = some (am (cn + 1), .inl (g.2.1 0, mlen cn, .inl (ms cn))) := by
  unfold wMX wM
  rw [List.getElem?_append_right (Nat.le_add_right _ _), Nat.add_sub_cancel_left, List.getElem?_cons_succ, List.getElem?_map, List.getElem?_range hc]
  rfl
theorem wM_setar {g : GP} {X : va_W} {am : Nat → Nat} {ms : St} {cn : Nat} (hc : cn < 10) (f : Nat → Int32) : (wMX g X am ms).set (X.length + (cn + 1)) (am (cn + 1), .inl (g.2.1 0, mlen cn, .inl f)) = wMX g X am (sF ms cn f) := by
  unfold wMX
  rw [List.set_append_right _ _ (Nat.le_add_right _ _), Nat.add_sub_cancel_left]
  congr 1
  match cn, hc with
  | 0, _ => rfl
  | 1, _ => rfl
  | 2, _ => rfl
  | 3, _ => rfl
  | 4, _ => rfl
  | 5, _ => rfl
  | 6, _ => rfl
  | 7, _ => rfl
  | 8, _ => rfl
  | 9, _ => rfl
theorem wM_setob {g : GP} {X : va_W} {am : Nat → Nat} {ms : St} {fs : List Value} {j : Nat} {v : Int32} (h : fs = mfs am (sU ms 10 j v)) : (wMX g X am ms).set X.length (am 0, .inr (6, fs)) = wMX g X am (sU ms 10 j v) := by
  subst h
  unfold wMX
  rw [List.set_append_right _ _ (Nat.le_refl _), Nat.sub_self]
  congr 1
section Rows
variable {p : Program} {l : Launch} {e : Env} {R : Room} {s : State} {m : MethodId} {args : Array Value} {below : List Frame} {meth : Method} {c : Code} {H : Heap} {locs : List Loc} {Q : State → Prop} {cc : ByteArray} {pc nL index : Nat} {ls : Array Slot} {rest : List Value} {g : GP} {A : Nat → Prop} {Ts : List Cond} {own ref CN : String} {T : u_T} {N ci a n : Nat} {fs : List Value} {wf : St → va_W} {st st1 : St} {β : Type}
theorem gen_i {x : Int32} {kf : Int32 → β} {res : β} (h : bnd x kf = res) (kk : ∀ y : Int32, kf y = res → W p l e R s m args below meth c H locs 0 0 Q (F0 m pc ls (.int y :: rest))) : W p l e R s m args below meth c H locs 0 0 Q (F0 m pc ls (.int x :: rest)) := kk x h
theorem gen_b {x : Bool} {kf : Bool → β} {res : β} (h : bnd x kf = res) (kk : ∀ y : Bool, kf y = res → W p l e R s m args below meth c H locs 0 0 Q (F0 m pc ls (.int (b2i y) :: rest))) : W p l e R s m args below meth c H locs 0 0 Q (F0 m pc ls (.int (b2i x) :: rest)) := kk x h
theorem gen_l {x : Int64} {kf : Int64 → β} {res : β} (h : bnd x kf = res) (kk : ∀ y : Int64, kf y = res → W p l e R s m args below meth c H locs 0 0 Q (F0 m pc ls (.long y :: rest))) : W p l e R s m args below meth c H locs 0 0 Q (F0 m pc ls (.long x :: rest)) := kk x h
theorem top_eq {x y : Int32} (h : x = y) (kk : W p l e R s m args below meth c H locs 0 0 Q (F0 m pc ls (.int y :: rest))) : W p l e R s m args below meth c H locs 0 0 Q (F0 m pc ls (.int x :: rest)) := by rw [h]; exact kk
theorem gen_q {q : Nat → Prop} {fa : Nat → Nat} {x : Nat} {kf : Nat → β} {res : β} (h : bnd x kf = res) (hq : q x) (kk : ∀ y : Nat, q y → kf y = res → W p l e R s m args below meth c H locs 0 0 Q (F0 m pc ls (.ref (fa y) :: rest))) : W p l e R s m args below meth c H locs 0 0 Q (F0 m pc ls (.ref (fa x) :: rest)) := kk x hq h
theorem w_cpy {c0 c1 a0 n0 n1 : Nat} {sp dp k : Int32} (C : Cx p s m args c cc nL Ts own g A) (hI : IW g A s.heap (wf st) H locs) (hml : ls.size = nL) (hlink : (Cond.methodLink own index arraycopyName).before args s = true) (hcpx : (Cond.native arraycopyName).before args s = true ∧ (Cond.static arraycopyName).before args s = true ∧ (Cond.initialized "java/lang/System").before args s = true) (p0 p1 : Nat) (h0 : (wf st)[p0]? = some (a0, .inl (g.2.1 0, n0, .inl (st c0)))) (h1 : (wf st)[p1]? = some (a, .inl (g.2.1 0, n1, .inl (st c1)))) (hset : ∀ f : Nat → Int32, (wf st).set p1 (a, .inl (g.2.1 0, n1, .inl f)) = wf (sF st c1 f)) {kf : St → Option β} {res : β} (h : acp n0 n1 st c0 c1 sp dp k kf = some res) (hfr : 1 ≤ R.frames) (hlo : (rest.map fun v => v.category).sum + (nativeFrameWords "java/lang/System" "arraycopy" 5 + 11) ≤ R.locals) (hdg : decode cc pc = .ok (.invokestatic index, 3))
    (kk : ∀ (ms1 : St) (H1 : Heap) (locs1 : List Loc), kf ms1 = some res → IW g A s.heap (wf ms1) H1 locs1 → W p l e R s m args below meth c H1 locs1 0 0 Q (F0 m (pc + 3) ls rest)) : W p l e R s m args below meth c H locs 0 0 Q (F0 m pc ls (.int k :: .int dp :: .ref a :: .int sp :: .ref a0 :: rest)) := by
  unfold acp at h
  by_cases hc : sp < 0 ∨ dp < 0 ∨ k < 0 ∨ n0 < sp.toNatClampNeg + k.toNatClampNeg ∨ n1 < dp.toNatClampNeg + k.toNatClampNeg
  · rw [if_pos hc] at h; cases h
  · rw [if_neg hc] at h
    refine va_copyi (ty := .int) C.1.1 C.1.2.1 (C.1.2.2.1.trans hml.symm) C.1.2.2.2.1 hlink hcpx.1 hcpx.2.1 hcpx.2.2 C.2.1 hI.1 hI.2.1 hI.2.2.1 p0 p1 0 0 h0 h1 rfl rfl rfl (fun z => hc (Or.inl z)) (fun z => hc (Or.inr (Or.inl z))) (fun z => hc (Or.inr (Or.inr (Or.inl z)))) (Nat.le_of_not_lt (fun z => hc (Or.inr (Or.inr (Or.inr (Or.inl z)))))) (Nat.le_of_not_lt (fun z => hc (Or.inr (Or.inr (Or.inr (Or.inr z)))))) (fun _ _ => rfl) hfr hlo hdg (fun H1 locs1 hP hD hS => ?_)
    rw [hset] at hP hD
    exact kk _ H1 locs1 h ⟨hP, hD, hS, hI.2.2.2⟩
theorem w_get (C : Cx p s m args c cc nL Ts own g A) (hin : ∀ w ∈ u_ws CN T N, w ∈ Ts) (hI : IW g A s.heap (wf st) H locs) (q0 : Nat) (he : (wf st)[q0]? = some (a, .inr (ci, fs))) (hc : vwCl[ci]? = some (CN, T, N)) (k : Nat) (hk : k < N) (hlink : (Cond.fieldLink own index ref (T k).2.1 (T k).2.2.1).before args s = true) (hs6 : (T k).1 = ref) {v : Value} (hv : fs[k]? = some v) (hdg : decode cc pc = .ok (.getfield index, 3))
    (kk : W p l e R s m args below meth c H locs 0 0 Q (F0 m (pc + 3) ls (v :: rest))) : W p l e R s m args below meth c H locs 0 0 Q (F0 m pc ls (.ref a :: rest)) :=
  va_get (D := g.1) (ci := ci) (v := v) (C := CN) (T := T) (N := N) C.1.1 C.1.2.1 C.1.2.2.2.2 hin C.1.2.2.2.1 C.2.1 hI.1 q0 he hc k hk hlink (fun _ h9 => by rw [hs6] at h9; exact h9) hv hdg kk
theorem w_put (C : Cx p s m args c cc nL Ts own g A) (hin : ∀ w ∈ u_ws CN T N, w ∈ Ts) (ty0 : Nat → FieldType) (hty : ∀ k, k < N → parseFieldDescriptor (T k).2.2.1 = some (ty0 k)) (hnm : ∀ a, a < N → ∀ b, b < N → a ≠ b → (T a).2.1 ≠ (T b).2.1) (hI : IW g A s.heap (wf st) H locs) (q0 : Nat) (he : (wf st)[q0]? = some (a, .inr (ci, fs))) (hc : vwCl[ci]? = some (CN, T, N)) (k : Nat) {v : Int32} {kf : St → β} {res : β} (h : bnd st1 kf = res) (hset : (wf st).set q0 (a, .inr (ci, fs.set k (.int v))) = wf st1) (hk : k < N) (hl : k < fs.length) (hlink : (Cond.fieldLink own index ref (T k).2.1 (T k).2.2.1).before args s = true) (hs6 : (T k).1 = ref ∧ (T k).2.2.2 = false) (hn : narrow (ty0 k) (.int v) = .int v) (hfit : fits (ty0 k) (.int v) = true) (hdg : decode cc pc = .ok (.putfield index, 3))
    (kk : ∀ (ms1 : St) (H1 : Heap) (locs1 : List Loc), kf ms1 = res → IW g A s.heap (wf ms1) H1 locs1 → W p l e R s m args below meth c H1 locs1 0 0 Q (F0 m (pc + 3) ls rest)) : W p l e R s m args below meth c H locs 0 0 Q (F0 m pc ls (.int v :: .ref a :: rest)) := by
  refine va_put (D := g.1) (ci := ci) (v := .int v) (ty := ty0 k) (C := CN) (T := T) (N := N) C.1.1 C.1.2.1 C.1.2.2.2.2 hin ty0 hty hnm C.1.2.2.2.1 C.2.1 hI.1 hI.2.1 hI.2.2.1 q0 he hc k hk hlink (fun _ h9 => by rw [hs6.1] at h9; exact h9) hs6.2 (hty k hk) hn hfit hl hdg (fun H1 locs1 hP hD hS => ?_)
  rw [hset] at hP hD
  exact kk st1 H1 locs1 h ⟨hP, hD, hS, hI.2.2.2⟩
theorem w_ld {f : Nat → Int32} (C : Cx p s m args c cc nL Ts own g A) (hI : IW g A s.heap (wf st) H locs) (q0 : Nat) (he : (wf st)[q0]? = some (a, .inl (g.2.1 0, n, .inl f))) {i : Int32} {kf : Nat → Option β} {res : β} (h : ck n i kf = some res) (hdg : decode cc pc = .ok (.iaload, 1))
    (kk : ∀ j : Nat, j < n → kf j = some res → W p l e R s m args below meth c H locs 0 0 Q (F0 m (pc + 1) ls (.int (f j) :: rest))) : W p l e R s m args below meth c H locs 0 0 Q (F0 m pc ls (.int i :: .ref a :: rest)) := by
  obtain ⟨hv, hj, h⟩ := ck_some h
  exact va_iald C.1.1 C.1.2.1 C.2.1 hI.1 q0 0 he rfl hv hdg (kk _ hj h)
theorem w_ldK {f : Nat → Int32} (C : Cx p s m args c cc nL Ts own g A) (hI : IW g A s.heap (wf st) H locs) (q0 : Nat) (he : (wf st)[q0]? = some (a, .inl (g.2.1 0, n, .inl f))) (j : Nat) {i : Int32} (hv : decide (i < 0 ∨ n ≤ i.toNatClampNeg) = false) (hj : i.toNatClampNeg = j) (hdg : decode cc pc = .ok (.iaload, 1))
    (kk : W p l e R s m args below meth c H locs 0 0 Q (F0 m (pc + 1) ls (.int (f j) :: rest))) : W p l e R s m args below meth c H locs 0 0 Q (F0 m pc ls (.int i :: .ref a :: rest)) := by
  subst hj
  exact va_iald C.1.1 C.1.2.1 C.2.1 hI.1 q0 0 he rfl (vpk hv) hdg kk
theorem w_ldZ {f : Nat → Int32} (C : Cx p s m args c cc nL Ts own g A) (hI : IW g A s.heap (wf st) H locs) (q0 : Nat) (he : (wf st)[q0]? = some (a, .inl (g.2.1 1, n, .inl f))) {i : Int32} {kf : Nat → Option β} {res : β} (h : ck n i kf = some res) (hdg : decode cc pc = .ok (.baload, 1))
    (kk : ∀ j : Nat, j < n → kf j = some res → W p l e R s m args below meth c H locs 0 0 Q (F0 m (pc + 1) ls (.int (f j) :: rest))) : W p l e R s m args below meth c H locs 0 0 Q (F0 m pc ls (.int i :: .ref a :: rest)) := by
  obtain ⟨hv, hj, h⟩ := ck_some h
  exact va_zald C.1.1 C.1.2.1 C.2.1 hI.1 q0 1 he rfl hv hdg (kk _ hj h)
theorem w_st {cn : Nat} (C : Cx p s m args c cc nL Ts own g A) (hI : IW g A s.heap (wf st) H locs) (q0 : Nat) (he : (wf st)[q0]? = some (a, .inl (g.2.1 0, n, .inl (st cn)))) (hset : ∀ f : Nat → Int32, (wf st).set q0 (a, .inl (g.2.1 0, n, .inl f)) = wf (sF st cn f)) {i x : Int32} {kf : St → Option β} {res : β} (h : sto n st cn i x kf = some res) (hdg : decode cc pc = .ok (.iastore, 1))
    (kk : ∀ (ms1 : St) (H1 : Heap) (locs1 : List Loc), kf ms1 = some res → IW g A s.heap (wf ms1) H1 locs1 → W p l e R s m args below meth c H1 locs1 0 0 Q (F0 m (pc + 1) ls rest)) : W p l e R s m args below meth c H locs 0 0 Q (F0 m pc ls (.int x :: .int i :: .ref a :: rest)) := by
  obtain ⟨hv, hj, h⟩ := ck_some h
  refine va_iast C.1.1 C.1.2.1 C.2.1 hI.1 hI.2.1 hI.2.2.1 q0 0 he rfl hv hdg (fun H1 locs1 hP hD hS => ?_)
  rw [hset] at hP hD
  exact kk _ H1 locs1 h ⟨hP, hD, hS, hI.2.2.2⟩
theorem w_stK {cn : Nat} (C : Cx p s m args c cc nL Ts own g A) (hI : IW g A s.heap (wf st) H locs) (q0 : Nat) (he : (wf st)[q0]? = some (a, .inl (g.2.1 0, n, .inl (st cn)))) (hset : ∀ f : Nat → Int32, (wf st).set q0 (a, .inl (g.2.1 0, n, .inl f)) = wf (sF st cn f)) (j : Nat) {i x : Int32} {kf : St → β} {res : β} (h : bnd (sU st cn j x) kf = res) (hv : decide (i < 0 ∨ n ≤ i.toNatClampNeg) = false) (hj : i.toNatClampNeg = j) (hdg : decode cc pc = .ok (.iastore, 1))
    (kk : ∀ (ms1 : St) (H1 : Heap) (locs1 : List Loc), kf ms1 = res → IW g A s.heap (wf ms1) H1 locs1 → W p l e R s m args below meth c H1 locs1 0 0 Q (F0 m (pc + 1) ls rest)) : W p l e R s m args below meth c H locs 0 0 Q (F0 m pc ls (.int x :: .int i :: .ref a :: rest)) := by
  subst hj
  refine va_iast C.1.1 C.1.2.1 C.2.1 hI.1 hI.2.1 hI.2.2.1 q0 0 he rfl (vpk hv) hdg (fun H1 locs1 hP hD hS => ?_)
  rw [hset] at hP hD
  exact kk (sU st cn i.toNatClampNeg x) H1 locs1 h ⟨hP, hD, hS, hI.2.2.2⟩
theorem w_stZ {cn : Nat} (C : Cx p s m args c cc nL Ts own g A) (hI : IW g A s.heap (wf st) H locs) (q0 : Nat) (he : (wf st)[q0]? = some (a, .inl (g.2.1 1, n, .inl (st cn)))) (hset : ∀ f : Nat → Int32, (wf st).set q0 (a, .inl (g.2.1 1, n, .inl f)) = wf (sF st cn f)) {i x : Int32} (hx : vp_nar .boolean x = x) {kf : St → Option β} {res : β} (h : sto n st cn i x kf = some res) (hdg : decode cc pc = .ok (.bastore, 1))
    (kk : ∀ (ms1 : St) (H1 : Heap) (locs1 : List Loc), kf ms1 = some res → IW g A s.heap (wf ms1) H1 locs1 → W p l e R s m args below meth c H1 locs1 0 0 Q (F0 m (pc + 1) ls rest)) : W p l e R s m args below meth c H locs 0 0 Q (F0 m pc ls (.int x :: .int i :: .ref a :: rest)) := by
  obtain ⟨hv, hj, h⟩ := ck_some h
  refine va_zast C.1.1 C.1.2.1 C.2.1 hI.1 hI.2.1 hI.2.2.1 q0 1 he rfl hv hdg (fun H1 locs1 hP hD hS => ?_)
  rw [hset, hx] at hP hD
  exact kk _ H1 locs1 h ⟨hP, hD, hS, hI.2.2.2⟩
theorem w_ald {t0 : Nat} {cA : ClassId} {f : Nat → Option Nat} {fa : Nat → Nat} (C : Cx p s m args c cc nL Ts own g A) (hI : IW g A s.heap (wf st) H locs) (q0 : Nat) (he : (wf st)[q0]? = some (a, .inl (cA, n, .inr (.inr (.inr (.inr f)))))) (ht : (tyG g)[t0]? = some (cA, .object CN)) (hf : ∀ j, f j = some (fa j)) {i : Int32} {kf : Nat → Option β} {res : β} (h : ck n i kf = some res) (hdg : decode cc pc = .ok (.aaload, 1))
    (kk : ∀ j : Nat, j < n → kf j = some res → W p l e R s m args below meth c H locs 0 0 Q (F0 m (pc + 1) ls (.ref (fa j) :: rest))) : W p l e R s m args below meth c H locs 0 0 Q (F0 m pc ls (.int i :: .ref a :: rest)) := by
  obtain ⟨hv, hj, h⟩ := ck_some h
  refine va_aldq C.1.1 C.1.2.1 C.2.1 hI.1 q0 t0 he ht hv hdg ?_
  rw [hf]
  exact kk _ hj h
theorem w_recv (C : Cx p s m args c cc nL Ts own g A) (hI : IW g A s.heap (wf st) H locs) (q0 : Nat) (he : (wf st)[q0]? = some (a, .inr (ci, fs))) (hc : vwCl[ci]? = some (CN, T, N)) : ∃ cell : Cell, H[a]? = some cell ∧ cell.vm.isStatics = false ∧ s.vm.findClass CN = some cell.cls :=
  va_recv C.2.1 hI.1 (ci := ci) (q0 := q0) hc he
theorem w_kast (C : Cx p s m args c cc nL Ts own g A) (hI : IW g A s.heap (wf st) H locs) (hown : own = RX1) (hlink : (Cond.fieldLink own index "GraveRows$Grave" "KIND_ABOVE" "[I").before args s = true) (hdg : decode cc pc = .ok (.getstatic index, 3))
    (kk : W p l e R s m args below meth c H locs 0 0 Q (F0 m (pc + 3) ls (.ref g.2.2 :: rest))) : W p l e R s m args below meth c H locs 0 0 Q (F0 m pc ls rest) :=
  va_gets C.1.1 C.1.2.1 C.2.2.2.2.1 hI.2.2.1 C.1.2.2.2.1 hlink (fun _ h => h) hdg kk
theorem w_kald (C : Cx p s m args c cc nL Ts own g A) (hI : IW g A s.heap (wf st) H locs) {i : Int32} {kf : Nat → Option β} {res : β} (h : ck 4 i kf = some res) (hdg : decode cc pc = .ok (.iaload, 1))
    (kk : ∀ j : Nat, j < 4 → kf j = some res → W p l e R s m args below meth c H locs 0 0 Q (F0 m (pc + 1) ls (.int (kai j) :: rest))) : W p l e R s m args below meth c H locs 0 0 Q (F0 m pc ls (.int i :: .ref g.2.2 :: rest)) := by
  obtain ⟨hv, hj, h⟩ := ck_some h
  exact va_ti C.1.1 C.1.2.1 C.2.2.2.2.2 hI.2.2.1 hv rfl hdg (kk _ hj h)
theorem w_mmax {x y : Int32} (hexec : p.tables.exec = Jvm.exec) (hb : c.code = cc) (hml : c.maxLocals = ls.size) (hown : s.vm.findClass own = some m.cls) (hlink : (Cond.methodLink own index Lib.Math.max.name).before args s = true) (hstat : (Cond.static Lib.Math.max.name).before args s = true) (hini : (Cond.initialized "java/lang/Math").before args s = true) (hcode : (Cond.code Lib.Math.max.name Lib.Math.max.code 2 (some .int)).before args s = true) (hframes : 1 ≤ R.frames) (hlocals : (rest.map fun v => v.category).sum + 13 ≤ R.locals) (hdg : decode cc pc = .ok (.invokestatic index, 3)) (kk : W p l e R s m args below meth c H locs 0 0 Q (F0 m (pc + 3) ls (.int (imax x y) :: rest))) : W p l e R s m args below meth c H locs 0 0 Q (F0 m pc ls (.int y :: .int x :: rest)) :=
  va_mmax hexec hb hml hown hlink hstat hini hcode hframes hlocals (Nat.zero_le _) (Nat.zero_le _) hdg kk
theorem w_mmin {x y : Int32} (hexec : p.tables.exec = Jvm.exec) (hb : c.code = cc) (hml : c.maxLocals = ls.size) (hown : s.vm.findClass own = some m.cls) (hlink : (Cond.methodLink own index Lib.Math.min.name).before args s = true) (hstat : (Cond.static Lib.Math.min.name).before args s = true) (hini : (Cond.initialized "java/lang/Math").before args s = true) (hcode : (Cond.code Lib.Math.min.name Lib.Math.min.code 2 (some .int)).before args s = true) (hframes : 1 ≤ R.frames) (hlocals : (rest.map fun v => v.category).sum + 13 ≤ R.locals) (hdg : decode cc pc = .ok (.invokestatic index, 3)) (kk : W p l e R s m args below meth c H locs 0 0 Q (F0 m (pc + 3) ls (.int (imin x y) :: rest))) : W p l e R s m args below meth c H locs 0 0 Q (F0 m pc ls (.int y :: .int x :: rest)) :=
  va_mmin hexec hb hml hown hlink hstat hini hcode hframes hlocals (Nat.zero_le _) (Nat.zero_le _) hdg kk
theorem w_mabs {x : Int32} (hexec : p.tables.exec = Jvm.exec) (hb : c.code = cc) (hml : c.maxLocals = ls.size) (hown : s.vm.findClass own = some m.cls) (hlink : (Cond.methodLink own index Lib.Math.abs.name).before args s = true) (hstat : (Cond.static Lib.Math.abs.name).before args s = true) (hini : (Cond.initialized "java/lang/Math").before args s = true) (hcode : (Cond.code Lib.Math.abs.name Lib.Math.abs.code 1 (some .int)).before args s = true) (hframes : 1 ≤ R.frames) (hlocals : (rest.map fun v => v.category).sum + 13 ≤ R.locals) (hdg : decode cc pc = .ok (.invokestatic index, 3)) (kk : W p l e R s m args below meth c H locs 0 0 Q (F0 m (pc + 3) ls (.int (iabs x) :: rest))) : W p l e R s m args below meth c H locs 0 0 Q (F0 m pc ls (.int x :: rest)) :=
  va_mabs hexec hb hml hown hlink hstat hini hcode hframes hlocals (Nat.zero_le _) (Nat.zero_le _) hdg kk
end Rows
