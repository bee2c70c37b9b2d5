/-! the cells of the class: its object, two grounds with ten graves each, four sheets, the search, the borders -/
def fs_C (ad : Nat → Nat) (st : St) : List Value := [.ref (ad 1), .ref (ad 17), .ref (ad 33), .ref (ad 42), .ref (ad 50), .int (st 51 0), .int (st 51 1)]
def fs_G0 (ad : Nat → Nat) (st : St) : List Value := [.ref (ad 2), .ref (ad 3), .ref (ad 4), .ref (ad 5), .ref (ad 6), .int (st 13 0), .int (st 13 1)]
def fs_V0 (st : St) (k : Nat) : List Value := [.int (st 0 k), .int (st 1 k), .int (st 2 k), .int (st 3 k), .int (st 4 k), .int (st 5 k), .int (st 6 k), .int (st 7 k), .int (st 8 k)]
def fs_G1 (ad : Nat → Nat) (st : St) : List Value := [.ref (ad 18), .ref (ad 19), .ref (ad 20), .ref (ad 21), .ref (ad 22), .int (st 29 0), .int (st 29 1)]
def fs_V1 (st : St) (k : Nat) : List Value := [.int (st 16 k), .int (st 17 k), .int (st 18 k), .int (st 19 k), .int (st 20 k), .int (st 21 k), .int (st 22 k), .int (st 23 k), .int (st 24 k)]
def fs_S (ad : Nat → Nat) (st : St) (k : Nat) : List Value := [.ref (ad (38 + k)), .int (st 36 k), .int (st 37 k)]
def fs_R (ad : Nat → Nat) (st : St) : List Value := [.ref (ad 43), .ref (ad 44), .ref (ad 45), .ref (ad 46), .ref (ad 47), .ref (ad 48), .ref (ad 49), .int (st 47 0)]
def fs_B (ad : Nat → Nat) (st : St) : List Value := [.ref (ad 51), .ref (ad 52), .int (st 50 0), .int (st 50 1)]
def wC (g : GP) (ad : Nat → Nat) (st : St) : va_W := [(ad 0, .inr (5, fs_C ad st)), (ad 1, .inr (2, fs_G0 ad st)), (ad 2, .inl (g.2.1 2, 10, .inr (.inr (.inr (.inr (fun k => some (ad (7 + k)))))))), (ad 3, .inl (g.2.1 0, 6, .inl (st 9))), (ad 4, .inl (g.2.1 0, 6, .inl (st 10))), (ad 5, .inl (g.2.1 0, 12, .inl (st 11))), (ad 6, .inl (g.2.1 0, 10, .inl (st 12))), (ad (7 + 0), .inr (1, fs_V0 st 0)), (ad (7 + 1), .inr (1, fs_V0 st 1)), (ad (7 + 2), .inr (1, fs_V0 st 2)), (ad (7 + 3), .inr (1, fs_V0 st 3)), (ad (7 + 4), .inr (1, fs_V0 st 4)), (ad (7 + 5), .inr (1, fs_V0 st 5)), (ad (7 + 6), .inr (1, fs_V0 st 6)), (ad (7 + 7), .inr (1, fs_V0 st 7)), (ad (7 + 8), .inr (1, fs_V0 st 8)), (ad (7 + 9), .inr (1, fs_V0 st 9)), (ad 17, .inr (2, fs_G1 ad st)), (ad 18, .inl (g.2.1 2, 10, .inr (.inr (.inr (.inr (fun k => some (ad (23 + k)))))))), (ad 19, .inl (g.2.1 0, 6, .inl (st 25))), (ad 20, .inl (g.2.1 0, 6, .inl (st 26))), (ad 21, .inl (g.2.1 0, 12, .inl (st 27))), (ad 22, .inl (g.2.1 0, 10, .inl (st 28))), (ad (23 + 0), .inr (1, fs_V1 st 0)), (ad (23 + 1), .inr (1, fs_V1 st 1)), (ad (23 + 2), .inr (1, fs_V1 st 2)), (ad (23 + 3), .inr (1, fs_V1 st 3)), (ad (23 + 4), .inr (1, fs_V1 st 4)), (ad (23 + 5), .inr (1, fs_V1 st 5)), (ad (23 + 6), .inr (1, fs_V1 st 6)), (ad (23 + 7), .inr (1, fs_V1 st 7)), (ad (23 + 8), .inr (1, fs_V1 st 8)), (ad (23 + 9), .inr (1, fs_V1 st 9)), (ad 33, .inl (g.2.1 3, 4, .inr (.inr (.inr (.inr (fun k => some (ad (34 + k)))))))), (ad (34 + 0), .inr (4, fs_S ad st 0)), (ad (34 + 1), .inr (4, fs_S ad st 1)), (ad (34 + 2), .inr (4, fs_S ad st 2)), (ad (34 + 3), .inr (4, fs_S ad st 3)), (ad (38 + 0), .inl (g.2.1 0, 12, .inl (st (32 + 0)))), (ad (38 + 1), .inl (g.2.1 0, 12, .inl (st (32 + 1)))), (ad (38 + 2), .inl (g.2.1 0, 12, .inl (st (32 + 2)))), (ad (38 + 3), .inl (g.2.1 0, 12, .inl (st (32 + 3)))), (ad 42, .inr (3, fs_R ad st)), (ad 43, .inl (g.2.1 0, 8, .inl (st 40))), (ad 44, .inl (g.2.1 0, 8, .inl (st 41))), (ad 45, .inl (g.2.1 0, 8, .inl (st 42))), (ad 46, .inl (g.2.1 0, 256, .inl (st 43))), (ad 47, .inl (g.2.1 0, 256, .inl (st 44))), (ad 48, .inl (g.2.1 0, 256, .inl (st 45))), (ad 49, .inl (g.2.1 0, 8, .inl (st 46))), (ad 50, .inr (0, fs_B ad st)), (ad 51, .inl (g.2.1 0, 8, .inl (st 48))), (ad 52, .inl (g.2.1 1, 8, .inl (st 49)))]
def wCX (g : GP) (Y : va_W) (ad : Nat → Nat) (st : St) : va_W := wC g ad st ++ Y
section World
variable {g : GP} {Y : va_W} {ad : Nat → Nat} {st : St}
theorem at_C : (wCX g Y ad st)[0]? = some (ad 0, .inr (5, fs_C ad st)) := rfl
theorem at_G0 : (wCX g Y ad st)[1]? = some (ad 1, .inr (2, fs_G0 ad st)) := rfl
theorem at_G1 : (wCX g Y ad st)[17]? = some (ad 17, .inr (2, fs_G1 ad st)) := rfl
theorem at_R : (wCX g Y ad st)[42]? = some (ad 42, .inr (3, fs_R ad st)) := rfl
theorem at_B : (wCX g Y ad st)[50]? = some (ad 50, .inr (0, fs_B ad st)) := rfl
theorem at_V0 {k : Nat} (hk : k < 10) : (wCX g Y ad st)[7 + k]? = some (ad (7 + k), .inr (1, fs_V0 st k)) := match k, hk with
  | 0, _ => rfl
  | 1, _ => rfl
  | 2, _ => rfl
  | 3, _ => rfl
  | 4, _ => rfl
  | 5, _ => rfl
  | 6, _ => rfl
  | 7, _ => rfl
  | 8, _ => rfl
  | 9, _ => rfl
theorem at_V1 {k : Nat} (hk : k < 10) : (wCX g Y ad st)[23 + k]? = some (ad (23 + k), .inr (1, fs_V1 st k)) := match k, hk with
  | 0, _ => rfl
  | 1, _ => rfl
  | 2, _ => rfl
  | 3, _ => rfl
  | 4, _ => rfl
  | 5, _ => rfl
  | 6, _ => rfl
  | 7, _ => rfl
  | 8, _ => rfl
  | 9, _ => rfl
theorem at_S {k : Nat} (hk : k < 4) : (wCX g Y ad st)[34 + k]? = some (ad (34 + k), .inr (4, fs_S ad st k)) := match k, hk with
  | 0, _ => rfl
  | 1, _ => rfl
  | 2, _ => rfl
  | 3, _ => rfl
set_option maxRecDepth 20000 in
theorem st_C_isKept {v : Int32} : (wCX g Y ad st).set (0) (ad (0), .inr (5, (fs_C ad st).set 5 (.int v))) = wCX g Y ad (sU st 51 0 v) := rfl
set_option maxRecDepth 20000 in
theorem st_C_findings {v : Int32} : (wCX g Y ad st).set (0) (ad (0), .inr (5, (fs_C ad st).set 6 (.int v))) = wCX g Y ad (sU st 51 1 v) := rfl
set_option maxRecDepth 20000 in
theorem st_G0_size {v : Int32} : (wCX g Y ad st).set (1) (ad (1), .inr (2, (fs_G0 ad st).set 5 (.int v))) = wCX g Y ad (sU st 13 0 v) := rfl
set_option maxRecDepth 20000 in
theorem st_G0_waits {v : Int32} : (wCX g Y ad st).set (1) (ad (1), .inr (2, (fs_G0 ad st).set 6 (.int v))) = wCX g Y ad (sU st 13 1 v) := rfl
set_option maxRecDepth 20000 in
theorem st_V0_kind {k : Nat} (hk : k < 10) {v : Int32} : (wCX g Y ad st).set (7 + k) (ad (7 + k), .inr (1, (fs_V0 st k).set 0 (.int v))) = wCX g Y ad (sU st 0 k v) := match k, hk with
  | 0, _ => rfl
  | 1, _ => rfl
  | 2, _ => rfl
  | 3, _ => rfl
  | 4, _ => rfl
  | 5, _ => rfl
  | 6, _ => rfl
  | 7, _ => rfl
  | 8, _ => rfl
  | 9, _ => rfl
set_option maxRecDepth 20000 in
theorem st_V0_x {k : Nat} (hk : k < 10) {v : Int32} : (wCX g Y ad st).set (7 + k) (ad (7 + k), .inr (1, (fs_V0 st k).set 1 (.int v))) = wCX g Y ad (sU st 1 k v) := match k, hk with
  | 0, _ => rfl
  | 1, _ => rfl
  | 2, _ => rfl
  | 3, _ => rfl
  | 4, _ => rfl
  | 5, _ => rfl
  | 6, _ => rfl
  | 7, _ => rfl
  | 8, _ => rfl
  | 9, _ => rfl
set_option maxRecDepth 20000 in
theorem st_V0_y {k : Nat} (hk : k < 10) {v : Int32} : (wCX g Y ad st).set (7 + k) (ad (7 + k), .inr (1, (fs_V0 st k).set 2 (.int v))) = wCX g Y ad (sU st 2 k v) := match k, hk with
  | 0, _ => rfl
  | 1, _ => rfl
  | 2, _ => rfl
  | 3, _ => rfl
  | 4, _ => rfl
  | 5, _ => rfl
  | 6, _ => rfl
  | 7, _ => rfl
  | 8, _ => rfl
  | 9, _ => rfl
set_option maxRecDepth 20000 in
theorem st_V0_goods {k : Nat} (hk : k < 10) {v : Int32} : (wCX g Y ad st).set (7 + k) (ad (7 + k), .inr (1, (fs_V0 st k).set 3 (.int v))) = wCX g Y ad (sU st 3 k v) := match k, hk with
  | 0, _ => rfl
  | 1, _ => rfl
  | 2, _ => rfl
  | 3, _ => rfl
  | 4, _ => rfl
  | 5, _ => rfl
  | 6, _ => rfl
  | 7, _ => rfl
  | 8, _ => rfl
  | 9, _ => rfl
set_option maxRecDepth 20000 in
theorem st_V0_from {k : Nat} (hk : k < 10) {v : Int32} : (wCX g Y ad st).set (7 + k) (ad (7 + k), .inr (1, (fs_V0 st k).set 4 (.int v))) = wCX g Y ad (sU st 4 k v) := match k, hk with
  | 0, _ => rfl
  | 1, _ => rfl
  | 2, _ => rfl
  | 3, _ => rfl
  | 4, _ => rfl
  | 5, _ => rfl
  | 6, _ => rfl
  | 7, _ => rfl
  | 8, _ => rfl
  | 9, _ => rfl
set_option maxRecDepth 20000 in
theorem st_V0_to {k : Nat} (hk : k < 10) {v : Int32} : (wCX g Y ad st).set (7 + k) (ad (7 + k), .inr (1, (fs_V0 st k).set 5 (.int v))) = wCX g Y ad (sU st 5 k v) := match k, hk with
  | 0, _ => rfl
  | 1, _ => rfl
  | 2, _ => rfl
  | 3, _ => rfl
  | 4, _ => rfl
  | 5, _ => rfl
  | 6, _ => rfl
  | 7, _ => rfl
  | 8, _ => rfl
  | 9, _ => rfl
set_option maxRecDepth 20000 in
theorem st_V0_cuts {k : Nat} (hk : k < 10) {v : Int32} : (wCX g Y ad st).set (7 + k) (ad (7 + k), .inr (1, (fs_V0 st k).set 6 (.int v))) = wCX g Y ad (sU st 6 k v) := match k, hk with
  | 0, _ => rfl
  | 1, _ => rfl
  | 2, _ => rfl
  | 3, _ => rfl
  | 4, _ => rfl
  | 5, _ => rfl
  | 6, _ => rfl
  | 7, _ => rfl
  | 8, _ => rfl
  | 9, _ => rfl
set_option maxRecDepth 20000 in
theorem st_V0_marksTold {k : Nat} (hk : k < 10) {v : Int32} : (wCX g Y ad st).set (7 + k) (ad (7 + k), .inr (1, (fs_V0 st k).set 7 (.int v))) = wCX g Y ad (sU st 7 k v) := match k, hk with
  | 0, _ => rfl
  | 1, _ => rfl
  | 2, _ => rfl
  | 3, _ => rfl
  | 4, _ => rfl
  | 5, _ => rfl
  | 6, _ => rfl
  | 7, _ => rfl
  | 8, _ => rfl
  | 9, _ => rfl
set_option maxRecDepth 20000 in
theorem st_V0_marksOfMan {k : Nat} (hk : k < 10) {v : Int32} : (wCX g Y ad st).set (7 + k) (ad (7 + k), .inr (1, (fs_V0 st k).set 8 (.int v))) = wCX g Y ad (sU st 8 k v) := match k, hk with
  | 0, _ => rfl
  | 1, _ => rfl
  | 2, _ => rfl
  | 3, _ => rfl
  | 4, _ => rfl
  | 5, _ => rfl
  | 6, _ => rfl
  | 7, _ => rfl
  | 8, _ => rfl
  | 9, _ => rfl
set_option maxRecDepth 20000 in
theorem st_G1_size {v : Int32} : (wCX g Y ad st).set (17) (ad (17), .inr (2, (fs_G1 ad st).set 5 (.int v))) = wCX g Y ad (sU st 29 0 v) := rfl
set_option maxRecDepth 20000 in
theorem st_G1_waits {v : Int32} : (wCX g Y ad st).set (17) (ad (17), .inr (2, (fs_G1 ad st).set 6 (.int v))) = wCX g Y ad (sU st 29 1 v) := rfl
set_option maxRecDepth 20000 in
theorem st_V1_kind {k : Nat} (hk : k < 10) {v : Int32} : (wCX g Y ad st).set (23 + k) (ad (23 + k), .inr (1, (fs_V1 st k).set 0 (.int v))) = wCX g Y ad (sU st 16 k v) := match k, hk with
  | 0, _ => rfl
  | 1, _ => rfl
  | 2, _ => rfl
  | 3, _ => rfl
  | 4, _ => rfl
  | 5, _ => rfl
  | 6, _ => rfl
  | 7, _ => rfl
  | 8, _ => rfl
  | 9, _ => rfl
set_option maxRecDepth 20000 in
theorem st_V1_x {k : Nat} (hk : k < 10) {v : Int32} : (wCX g Y ad st).set (23 + k) (ad (23 + k), .inr (1, (fs_V1 st k).set 1 (.int v))) = wCX g Y ad (sU st 17 k v) := match k, hk with
  | 0, _ => rfl
  | 1, _ => rfl
  | 2, _ => rfl
  | 3, _ => rfl
  | 4, _ => rfl
  | 5, _ => rfl
  | 6, _ => rfl
  | 7, _ => rfl
  | 8, _ => rfl
  | 9, _ => rfl
set_option maxRecDepth 20000 in
theorem st_V1_y {k : Nat} (hk : k < 10) {v : Int32} : (wCX g Y ad st).set (23 + k) (ad (23 + k), .inr (1, (fs_V1 st k).set 2 (.int v))) = wCX g Y ad (sU st 18 k v) := match k, hk with
  | 0, _ => rfl
  | 1, _ => rfl
  | 2, _ => rfl
  | 3, _ => rfl
  | 4, _ => rfl
  | 5, _ => rfl
  | 6, _ => rfl
  | 7, _ => rfl
  | 8, _ => rfl
  | 9, _ => rfl
set_option maxRecDepth 20000 in
theorem st_V1_goods {k : Nat} (hk : k < 10) {v : Int32} : (wCX g Y ad st).set (23 + k) (ad (23 + k), .inr (1, (fs_V1 st k).set 3 (.int v))) = wCX g Y ad (sU st 19 k v) := match k, hk with
  | 0, _ => rfl
  | 1, _ => rfl
  | 2, _ => rfl
  | 3, _ => rfl
  | 4, _ => rfl
  | 5, _ => rfl
  | 6, _ => rfl
  | 7, _ => rfl
  | 8, _ => rfl
  | 9, _ => rfl
set_option maxRecDepth 20000 in
theorem st_V1_from {k : Nat} (hk : k < 10) {v : Int32} : (wCX g Y ad st).set (23 + k) (ad (23 + k), .inr (1, (fs_V1 st k).set 4 (.int v))) = wCX g Y ad (sU st 20 k v) := match k, hk with
  | 0, _ => rfl
  | 1, _ => rfl
  | 2, _ => rfl
  | 3, _ => rfl
  | 4, _ => rfl
  | 5, _ => rfl
  | 6, _ => rfl
  | 7, _ => rfl
  | 8, _ => rfl
  | 9, _ => rfl
set_option maxRecDepth 20000 in
theorem st_V1_to {k : Nat} (hk : k < 10) {v : Int32} : (wCX g Y ad st).set (23 + k) (ad (23 + k), .inr (1, (fs_V1 st k).set 5 (.int v))) = wCX g Y ad (sU st 21 k v) := match k, hk with
  | 0, _ => rfl
  | 1, _ => rfl
  | 2, _ => rfl
  | 3, _ => rfl
  | 4, _ => rfl
  | 5, _ => rfl
  | 6, _ => rfl
  | 7, _ => rfl
  | 8, _ => rfl
  | 9, _ => rfl
set_option maxRecDepth 20000 in
theorem st_V1_cuts {k : Nat} (hk : k < 10) {v : Int32} : (wCX g Y ad st).set (23 + k) (ad (23 + k), .inr (1, (fs_V1 st k).set 6 (.int v))) = wCX g Y ad (sU st 22 k v) := match k, hk with
  | 0, _ => rfl
  | 1, _ => rfl
  | 2, _ => rfl
  | 3, _ => rfl
  | 4, _ => rfl
  | 5, _ => rfl
  | 6, _ => rfl
  | 7, _ => rfl
  | 8, _ => rfl
  | 9, _ => rfl
set_option maxRecDepth 20000 in
theorem st_V1_marksTold {k : Nat} (hk : k < 10) {v : Int32} : (wCX g Y ad st).set (23 + k) (ad (23 + k), .inr (1, (fs_V1 st k).set 7 (.int v))) = wCX g Y ad (sU st 23 k v) := match k, hk with
  | 0, _ => rfl
  | 1, _ => rfl
  | 2, _ => rfl
  | 3, _ => rfl
  | 4, _ => rfl
  | 5, _ => rfl
  | 6, _ => rfl
  | 7, _ => rfl
  | 8, _ => rfl
  | 9, _ => rfl
set_option maxRecDepth 20000 in
theorem st_V1_marksOfMan {k : Nat} (hk : k < 10) {v : Int32} : (wCX g Y ad st).set (23 + k) (ad (23 + k), .inr (1, (fs_V1 st k).set 8 (.int v))) = wCX g Y ad (sU st 24 k v) := match k, hk with
  | 0, _ => rfl
  | 1, _ => rfl
  | 2, _ => rfl
  | 3, _ => rfl
  | 4, _ => rfl
  | 5, _ => rfl
  | 6, _ => rfl
  | 7, _ => rfl
  | 8, _ => rfl
  | 9, _ => rfl
set_option maxRecDepth 20000 in
theorem st_S_bits {k : Nat} (hk : k < 4) {v : Int32} : (wCX g Y ad st).set (34 + k) (ad (34 + k), .inr (4, (fs_S ad st k).set 1 (.int v))) = wCX g Y ad (sU st 36 k v) := match k, hk with
  | 0, _ => rfl
  | 1, _ => rfl
  | 2, _ => rfl
  | 3, _ => rfl
set_option maxRecDepth 20000 in
theorem st_S_length {k : Nat} (hk : k < 4) {v : Int32} : (wCX g Y ad st).set (34 + k) (ad (34 + k), .inr (4, (fs_S ad st k).set 2 (.int v))) = wCX g Y ad (sU st 37 k v) := match k, hk with
  | 0, _ => rfl
  | 1, _ => rfl
  | 2, _ => rfl
  | 3, _ => rfl
set_option maxRecDepth 20000 in
theorem st_R_size {v : Int32} : (wCX g Y ad st).set (42) (ad (42), .inr (3, (fs_R ad st).set 7 (.int v))) = wCX g Y ad (sU st 47 0 v) := rfl
set_option maxRecDepth 20000 in
theorem st_B_size {v : Int32} : (wCX g Y ad st).set (50) (ad (50), .inr (0, (fs_B ad st).set 2 (.int v))) = wCX g Y ad (sU st 50 0 v) := rfl
set_option maxRecDepth 20000 in
theorem st_B_total {v : Int32} : (wCX g Y ad st).set (50) (ad (50), .inr (0, (fs_B ad st).set 3 (.int v))) = wCX g Y ad (sU st 50 1 v) := rfl
theorem ar_3 : (wCX g Y ad st)[3]? = some (ad 3, .inl (g.2.1 0, 6, .inl (st 9))) := rfl
set_option maxRecDepth 20000 in
theorem sa_3 (f : Nat → Int32) : (wCX g Y ad st).set 3 (ad 3, .inl (g.2.1 0, 6, .inl f)) = wCX g Y ad (sF st 9 f) := rfl
theorem ar_4 : (wCX g Y ad st)[4]? = some (ad 4, .inl (g.2.1 0, 6, .inl (st 10))) := rfl
set_option maxRecDepth 20000 in
theorem sa_4 (f : Nat → Int32) : (wCX g Y ad st).set 4 (ad 4, .inl (g.2.1 0, 6, .inl f)) = wCX g Y ad (sF st 10 f) := rfl
theorem ar_5 : (wCX g Y ad st)[5]? = some (ad 5, .inl (g.2.1 0, 12, .inl (st 11))) := rfl
set_option maxRecDepth 20000 in
theorem sa_5 (f : Nat → Int32) : (wCX g Y ad st).set 5 (ad 5, .inl (g.2.1 0, 12, .inl f)) = wCX g Y ad (sF st 11 f) := rfl
theorem ar_6 : (wCX g Y ad st)[6]? = some (ad 6, .inl (g.2.1 0, 10, .inl (st 12))) := rfl
set_option maxRecDepth 20000 in
theorem sa_6 (f : Nat → Int32) : (wCX g Y ad st).set 6 (ad 6, .inl (g.2.1 0, 10, .inl f)) = wCX g Y ad (sF st 12 f) := rfl
theorem ar_19 : (wCX g Y ad st)[19]? = some (ad 19, .inl (g.2.1 0, 6, .inl (st 25))) := rfl
set_option maxRecDepth 20000 in
theorem sa_19 (f : Nat → Int32) : (wCX g Y ad st).set 19 (ad 19, .inl (g.2.1 0, 6, .inl f)) = wCX g Y ad (sF st 25 f) := rfl
theorem ar_20 : (wCX g Y ad st)[20]? = some (ad 20, .inl (g.2.1 0, 6, .inl (st 26))) := rfl
set_option maxRecDepth 20000 in
theorem sa_20 (f : Nat → Int32) : (wCX g Y ad st).set 20 (ad 20, .inl (g.2.1 0, 6, .inl f)) = wCX g Y ad (sF st 26 f) := rfl
theorem ar_21 : (wCX g Y ad st)[21]? = some (ad 21, .inl (g.2.1 0, 12, .inl (st 27))) := rfl
set_option maxRecDepth 20000 in
theorem sa_21 (f : Nat → Int32) : (wCX g Y ad st).set 21 (ad 21, .inl (g.2.1 0, 12, .inl f)) = wCX g Y ad (sF st 27 f) := rfl
theorem ar_22 : (wCX g Y ad st)[22]? = some (ad 22, .inl (g.2.1 0, 10, .inl (st 28))) := rfl
set_option maxRecDepth 20000 in
theorem sa_22 (f : Nat → Int32) : (wCX g Y ad st).set 22 (ad 22, .inl (g.2.1 0, 10, .inl f)) = wCX g Y ad (sF st 28 f) := rfl
theorem ar_43 : (wCX g Y ad st)[43]? = some (ad 43, .inl (g.2.1 0, 8, .inl (st 40))) := rfl
set_option maxRecDepth 20000 in
theorem sa_43 (f : Nat → Int32) : (wCX g Y ad st).set 43 (ad 43, .inl (g.2.1 0, 8, .inl f)) = wCX g Y ad (sF st 40 f) := rfl
theorem ar_44 : (wCX g Y ad st)[44]? = some (ad 44, .inl (g.2.1 0, 8, .inl (st 41))) := rfl
set_option maxRecDepth 20000 in
theorem sa_44 (f : Nat → Int32) : (wCX g Y ad st).set 44 (ad 44, .inl (g.2.1 0, 8, .inl f)) = wCX g Y ad (sF st 41 f) := rfl
theorem ar_45 : (wCX g Y ad st)[45]? = some (ad 45, .inl (g.2.1 0, 8, .inl (st 42))) := rfl
set_option maxRecDepth 20000 in
theorem sa_45 (f : Nat → Int32) : (wCX g Y ad st).set 45 (ad 45, .inl (g.2.1 0, 8, .inl f)) = wCX g Y ad (sF st 42 f) := rfl
theorem ar_46 : (wCX g Y ad st)[46]? = some (ad 46, .inl (g.2.1 0, 256, .inl (st 43))) := rfl
set_option maxRecDepth 20000 in
theorem sa_46 (f : Nat → Int32) : (wCX g Y ad st).set 46 (ad 46, .inl (g.2.1 0, 256, .inl f)) = wCX g Y ad (sF st 43 f) := rfl
theorem ar_47 : (wCX g Y ad st)[47]? = some (ad 47, .inl (g.2.1 0, 256, .inl (st 44))) := rfl
set_option maxRecDepth 20000 in
theorem sa_47 (f : Nat → Int32) : (wCX g Y ad st).set 47 (ad 47, .inl (g.2.1 0, 256, .inl f)) = wCX g Y ad (sF st 44 f) := rfl
theorem ar_48 : (wCX g Y ad st)[48]? = some (ad 48, .inl (g.2.1 0, 256, .inl (st 45))) := rfl
set_option maxRecDepth 20000 in
theorem sa_48 (f : Nat → Int32) : (wCX g Y ad st).set 48 (ad 48, .inl (g.2.1 0, 256, .inl f)) = wCX g Y ad (sF st 45 f) := rfl
theorem ar_49 : (wCX g Y ad st)[49]? = some (ad 49, .inl (g.2.1 0, 8, .inl (st 46))) := rfl
set_option maxRecDepth 20000 in
theorem sa_49 (f : Nat → Int32) : (wCX g Y ad st).set 49 (ad 49, .inl (g.2.1 0, 8, .inl f)) = wCX g Y ad (sF st 46 f) := rfl
theorem ar_51 : (wCX g Y ad st)[51]? = some (ad 51, .inl (g.2.1 0, 8, .inl (st 48))) := rfl
set_option maxRecDepth 20000 in
theorem sa_51 (f : Nat → Int32) : (wCX g Y ad st).set 51 (ad 51, .inl (g.2.1 0, 8, .inl f)) = wCX g Y ad (sF st 48 f) := rfl
theorem ar_52 : (wCX g Y ad st)[52]? = some (ad 52, .inl (g.2.1 1, 8, .inl (st 49))) := rfl
set_option maxRecDepth 20000 in
theorem sa_52 (f : Nat → Int32) : (wCX g Y ad st).set 52 (ad 52, .inl (g.2.1 1, 8, .inl f)) = wCX g Y ad (sF st 49 f) := rfl
theorem ar_S {k : Nat} (hk : k < 4) : (wCX g Y ad st)[38 + k]? = some (ad (38 + k), .inl (g.2.1 0, 12, .inl (st (32 + k)))) := match k, hk with
  | 0, _ => rfl
  | 1, _ => rfl
  | 2, _ => rfl
  | 3, _ => rfl
set_option maxRecDepth 20000 in
theorem sa_S {k : Nat} (hk : k < 4) (f : Nat → Int32) : (wCX g Y ad st).set (38 + k) (ad (38 + k), .inl (g.2.1 0, 12, .inl f)) = wCX g Y ad (sF st (32 + k) f) := match k, hk with
  | 0, _ => rfl
  | 1, _ => rfl
  | 2, _ => rfl
  | 3, _ => rfl
theorem ar_W {q : Nat} (hq : q = 3 ∨ q = 4) : (wCX g Y ad st)[q]? = some (ad q, .inl (g.2.1 0, 6, .inl (st (q + 6)))) := by
  rcases hq with rfl | rfl <;> rfl
set_option maxRecDepth 20000 in
theorem sa_W {q : Nat} (hq : q = 3 ∨ q = 4) (f : Nat → Int32) : (wCX g Y ad st).set q (ad q, .inl (g.2.1 0, 6, .inl f)) = wCX g Y ad (sF st (q + 6) f) := by
  rcases hq with rfl | rfl <;> rfl
theorem ra_2 : (wCX g Y ad st)[2]? = some (ad 2, .inl (g.2.1 2, 10, .inr (.inr (.inr (.inr (fun k => some (ad (7 + k)))))))) := rfl
theorem ra_18 : (wCX g Y ad st)[18]? = some (ad 18, .inl (g.2.1 2, 10, .inr (.inr (.inr (.inr (fun k => some (ad (23 + k)))))))) := rfl
theorem ra_33 : (wCX g Y ad st)[33]? = some (ad 33, .inl (g.2.1 3, 4, .inr (.inr (.inr (.inr (fun k => some (ad (34 + k)))))))) := rfl
end World
