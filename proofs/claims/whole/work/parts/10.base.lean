/-! the words of the pure functions that are read off the bytecode, and the rows of calls over a world that is one function of numbers -/
abbrev vwCl : List vw_C := [(RX0, TX0, 6), (RX1, TX1, 3), (RX2, TX2, 12), (RX3, TX3, 4), (RX4, TX4, 7), (RX5, TX5, 3), (RX6, TX6, 3), (RX7, TX7, 2), (RX8, TX8, 3), (RX9, TX9, 11), (RX10, TX10, 34)]
abbrev mM : Type := Nat → Nat → Int32
def st2 (f : mM) (c k : Nat) (v : Int32) : mM := va_up f c (upd (f c) k v)
def cp2 (f : mM) (a b n : Nat) : mM := va_up f b (va_cpy (f a) (f b) 0 0 n)
def sq {α β : Type} (a : α) (k : α → Option β) : Option β := k a
theorem sq_out {α β : Type} {a : α} {k : α → Option β} {r : β} (h : sq a k = some r) : ∃ x, x = a ∧ k x = some r := ⟨a, rfl, h⟩
def bi {α β : Type} (o : Option α) (k : α → Option β) : Option β := match o with
  | none => none
  | some x => k x
def bi2 {α α2 β : Type} (o : Option (α × α2)) (k : α → α2 → Option β) : Option β := match o with
  | none => none
  | some (x, x2) => k x x2
def bi3 {α α2 α3 β : Type} (o : Option (α × α2 × α3)) (k : α → α2 → α3 → Option β) : Option β := match o with
  | none => none
  | some (x, x2, x3) => k x x2 x3
def bi4 {α α2 α3 α4 β : Type} (o : Option (α × α2 × α3 × α4)) (k : α → α2 → α3 → α4 → Option β) : Option β := match o with
  | none => none
  | some (x, x2, x3, x4) => k x x2 x3 x4
def bi5 {α α2 α3 α4 α5 β : Type} (o : Option (α × α2 × α3 × α4 × α5)) (k : α → α2 → α3 → α4 → α5 → Option β) : Option β := match o with
  | none => none
  | some (x, x2, x3, x4, x5) => k x x2 x3 x4 x5
theorem bi_out {α β : Type} {o : Option α} {k : α → Option β} {r : β} (h : bi o k = some r) : ∃ x, o = some x ∧ k x = some r := by
  cases o with
  | none => cases h
  | some x => exact ⟨x, rfl, h⟩
theorem bi2_out {α α2 β : Type} {o : Option (α × α2)} {k : α → α2 → Option β} {r : β} (h : bi2 o k = some r) : ∃ x x2, o = some (x, x2) ∧ k x x2 = some r := by
  cases o with
  | none => cases h
  | some x => exact ⟨x.1, x.2, rfl, h⟩
theorem bi3_out {α α2 α3 β : Type} {o : Option (α × α2 × α3)} {k : α → α2 → α3 → Option β} {r : β} (h : bi3 o k = some r) : ∃ x x2 x3, o = some (x, x2, x3) ∧ k x x2 x3 = some r := by
  cases o with
  | none => cases h
  | some x => exact ⟨x.1, x.2.1, x.2.2, rfl, h⟩
theorem bi4_out {α α2 α3 α4 β : Type} {o : Option (α × α2 × α3 × α4)} {k : α → α2 → α3 → α4 → Option β} {r : β} (h : bi4 o k = some r) : ∃ x x2 x3 x4, o = some (x, x2, x3, x4) ∧ k x x2 x3 x4 = some r := by
  cases o with
  | none => cases h
  | some x => exact ⟨x.1, x.2.1, x.2.2.1, x.2.2.2, rfl, h⟩
theorem bi5_out {α α2 α3 α4 α5 β : Type} {o : Option (α × α2 × α3 × α4 × α5)} {k : α → α2 → α3 → α4 → α5 → Option β} {r : β} (h : bi5 o k = some r) : ∃ x x2 x3 x4 x5, o = some (x, x2, x3, x4, x5) ∧ k x x2 x3 x4 x5 = some r := by
  cases o with
  | none => cases h
  | some x => exact ⟨x.1, x.2.1, x.2.2.1, x.2.2.2.1, x.2.2.2.2, rfl, h⟩
def gi {β : Type} (i : Int32) (n : Nat) (k : Option β) : Option β := if i < 0 ∨ n ≤ i.toNatClampNeg then none else k
theorem gi_out {β : Type} {i : Int32} {n : Nat} {k : Option β} {r : β} (h : gi i n k = some r) : vp_in i n ∧ k = some r := by
  unfold gi at h
  by_cases c : i < 0 ∨ n ≤ i.toNatClampNeg
  · rw [if_pos c] at h; cases h
  · rw [if_neg c] at h; exact ⟨c, h⟩
def nz {β : Type} (y : Int32) (k : Option β) : Option β := if y = 0 then none else k
theorem nz_out {β : Type} {y : Int32} {k : Option β} {r : β} (h : nz y k = some r) : ¬ y = 0 ∧ k = some r := by
  unfold nz at h
  by_cases c : y = 0
  · rw [if_pos c] at h; cases h
  · rw [if_neg c] at h; exact ⟨c, h⟩
/-- a boolean that is handed back is 0 or 1 -/
def rz {β : Type} (v : Int32) (k : Option β) : Option β := if v = 0 ∨ v = 1 then k else none
theorem rz_out {β : Type} {v : Int32} {k : Option β} {r : β} (h : rz v k = some r) : narrow .boolean (.int v) = .int v ∧ k = some r := by
  unfold rz at h
  by_cases c : v = 0 ∨ v = 1
  · rw [if_pos c] at h
    refine ⟨?_, h⟩
    rcases c with rfl | rfl <;> rfl
  · rw [if_neg c] at h; cases h
theorem itT {β : Type} {c : Prop} [Decidable c] {A B : Option β} {r : β} (h : (if c then A else B) = some r) (hc : c) : A = some r := by rw [if_pos hc] at h; exact h
theorem itF {β : Type} {c : Prop} [Decidable c] {A B : Option β} {r : β} (h : (if c then A else B) = some r) (hc : ¬ c) : B = some r := by rw [if_neg hc] at h; exact h
theorem sk1 {α β : Type} {k k' : α → Option β} {r : β} (e : k = k') (v : α) (h : k v = some r) : k' v = some r := e ▸ h
theorem sk2 {α α2 β : Type} {k k' : α → α2 → Option β} {r : β} (e : k = k') (v : α) (v2 : α2) (h : k v v2 = some r) : k' v v2 = some r := e ▸ h
theorem sk3 {α α2 α3 β : Type} {k k' : α → α2 → α3 → Option β} {r : β} (e : k = k') (v : α) (v2 : α2) (v3 : α3) (h : k v v2 v3 = some r) : k' v v2 v3 = some r := e ▸ h
theorem sk4 {α α2 α3 α4 β : Type} {k k' : α → α2 → α3 → α4 → Option β} {r : β} (e : k = k') (v : α) (v2 : α2) (v3 : α3) (v4 : α4) (h : k v v2 v3 v4 = some r) : k' v v2 v3 v4 = some r := e ▸ h
/-- the array classes -/
def tyA (cy : Nat → ClassId) : List (ClassId × FieldType) := [(cy 0, .byte), (cy 1, .int), (cy 2, .boolean), (cy 3, .object "PlankNine$Now")]
abbrev wT : Type := mM → Int64 → va_W
/-- what the nest links say, at a state -/
def nP (nF : List (String × Nat × String × String × String × String)) (nM : List (String × Nat × MethodName × String)) (U : State) : Prop := (∀ q ∈ nF, va_Nw (.fieldLinkNest q.1 q.2.1 q.2.2.1 q.2.2.2.1 q.2.2.2.2.1 q.2.2.2.2.2) U) ∧ ∀ q ∈ nM, va_Nw (.methodLinkNest q.1 q.2.1 q.2.2.1 q.2.2.2) U
theorem nP.warm {nF : List (String × Nat × String × String × String × String)} {nM : List (String × Nat × MethodName × String)} {s U : State} (hW : s.WarmedH U.vm) (h : nP nF nM s) : nP nF nM U := ⟨fun q hq => va_Nw.warmF hW (h.1 q hq), fun q hq => va_Nw.warmM hW (h.2 q hq)⟩
theorem nP.same {nF : List (String × Nat × String × String × String × String)} {nM : List (String × Nat × MethodName × String)} {s U : State} (hv : s.vm = U.vm) (h : nP nF nM s) : nP nF nM U := ⟨fun q hq => va_Nw.same rfl hv (h.1 q hq), fun q hq => va_Nw.same rfl hv (h.2 q hq)⟩
/-- something more that holds of a state and stays, as long as nothing changes outside A -/
def xS (A : Nat → Prop) (X : State → Prop) : Prop := (∀ (a : Array Value) (U : State) (g : JFrame) (mk : MethodId), X U → X (U.calling g mk a)) ∧ ∀ (s U : State) (H : Heap) (locs : List Loc), X s → va_S A s.heap H locs → U.heap = H → s.WarmedH U.vm → X U
def pre (D : va_G) (cy : Nat → ClassId) (w : wT) (X : State → Prop) (f : mM) (t : Int64) : State → Prop := fun U => va_P D vwCl (w f t) U.heap ∧ va_K D vwCl (tyA cy) U ∧ X U
def atW (D : va_G) (w : wT) : mM × Int64 → State → Prop := fun u t => va_P D vwCl (w u.1 u.2) t.heap
theorem pre_blind {D : va_G} {cy : Nat → ClassId} {w : wT} {A : Nat → Prop} {X : State → Prop} (hX : xS A X) {f : mM} {t : Int64} {av : List Value} : FrameBlind (va_Pc av (pre D cy w X f t)) := fun a U g mk q => by
  obtain ⟨q0, qP, qK, qX⟩ := q
  exact ⟨q0, qP, va_K.moved (u := U) (U := U.calling g mk a) (Vm.Alike.refl U.vm) qK, hX.1 a U g mk qX⟩
section CW
variable {p : Program} {l : Launch} {e : Env} {R : Room} {s : State} {m : MethodId} {args : Array Value} {below : List Frame} {meth : Method} {c : Code} {H : Heap} {locs : List Loc} {Q : State → Prop} {cc bytes : ByteArray} {nL maxL n index : Nat} {Ts ws : List Cond} {own C host : String} {y : MethodName} {ret : Option FieldType} {rm : Room} {b : Addr} {As rest st : List Value} {D : va_G} {cy : Nat → ClassId} {A : Nat → Prop} {X : State → Prop} {w : wT} {f f' : mM} {t t' : Int64} {pc : Nat} {ls : Array Slot}
theorem pre_go (hX : xS A X) (hK : va_K D vwCl (tyA cy) s) (hx : X s) (hS : va_S A s.heap H locs) (hP : va_P D vwCl (w f t) H) (av : List Value) : ∀ U : State, U.heap = H → s.WarmedH U.vm → va_Pc av (pre D cy w X f t) av.toArray U := fun U hU hW => ⟨rfl, by rw [hU]; exact hP, va_K.moved hW.alike hK, hX.2 s U H locs hx hS hU hW⟩
theorem cw_vi {r : Int32} (S : CallFix p m c cc nL s args Ts own) (hX : xS A X) (hK : va_K D vwCl (tyA cy) s) (hx : X s) (hS : va_S A s.heap H locs) (hP : va_P D vwCl (w f t) H)
    (hM : Met l y ws rm (va_Pc (.ref b :: As) (pre D cy w X f t)) (va_Qi (fun (r2 : Int32) (u : mM × Int64) => r2 = r ∧ u = (f', t')) (atW D w) A) 0 0 A) (cw : CallW R s args own C index y bytes maxL ret ws rm 0 0 n)
    (hrecv : ∃ cell : Cell, H[b]? = some cell ∧ cell.vm.isStatics = false ∧ s.vm.findClass C = some cell.cls) (hn : As.length = n) (hsize : ls.size = nL) (hst : st = As.reverse ++ .ref b :: rest) (hW : (rest.map fun v => v.category).sum ≤ 8) (hc : 0 ≤ R.cells ∧ 0 ≤ R.slots) (hdg : decode cc pc = .ok (.invokevirtual index, 3))
    (kk : ∀ (H1 : Heap) (locs1 : List Loc), va_P D vwCl (w f' t') H1 → va_S A s.heap H1 locs1 → W p l e R s m args below meth c H1 locs1 0 0 Q (F0 m (pc + 3) ls (.int r :: rest))) : W p l e R s m args below meth c H locs 0 0 Q (F0 m pc ls st) := by
  refine va_calli (va_runV (As := As) (rest := rest) S hM cw ⟨pre_blind hX, hrecv, pre_go hX hK hx hS hP _⟩ rfl hn hsize hst (lv_room hW) hdg hc) hS (fun q _ h => h) (fun q h => h) (fun r2 u t2 H1 locs1 ht hvm hw hB hz1 hk1 hS1 => ?_)
  obtain ⟨rfl, rfl⟩ := hw
  exact kk H1 locs1 (by rw [← ht]; exact hB) hS1
theorem cw_vl {r : Int64} (S : CallFix p m c cc nL s args Ts own) (hX : xS A X) (hK : va_K D vwCl (tyA cy) s) (hx : X s) (hS : va_S A s.heap H locs) (hP : va_P D vwCl (w f t) H)
    (hM : Met l y ws rm (va_Pc (.ref b :: As) (pre D cy w X f t)) (va_Ql (fun (r2 : Int64) (u : mM × Int64) => r2 = r ∧ u = (f', t')) (atW D w) A) 0 0 A) (cw : CallW R s args own C index y bytes maxL ret ws rm 0 0 n)
    (hrecv : ∃ cell : Cell, H[b]? = some cell ∧ cell.vm.isStatics = false ∧ s.vm.findClass C = some cell.cls) (hn : As.length = n) (hsize : ls.size = nL) (hst : st = As.reverse ++ .ref b :: rest) (hW : (rest.map fun v => v.category).sum ≤ 8) (hc : 0 ≤ R.cells ∧ 0 ≤ R.slots) (hdg : decode cc pc = .ok (.invokevirtual index, 3))
    (kk : ∀ (H1 : Heap) (locs1 : List Loc), va_P D vwCl (w f' t') H1 → va_S A s.heap H1 locs1 → W p l e R s m args below meth c H1 locs1 0 0 Q (F0 m (pc + 3) ls (.long r :: rest))) : W p l e R s m args below meth c H locs 0 0 Q (F0 m pc ls st) := by
  refine va_calll (va_runV (As := As) (rest := rest) S hM cw ⟨pre_blind hX, hrecv, pre_go hX hK hx hS hP _⟩ rfl hn hsize hst (lv_room hW) hdg hc) hS (fun q _ h => h) (fun q h => h) (fun r2 u t2 H1 locs1 ht hvm hw hB hz1 hk1 hS1 => ?_)
  obtain ⟨rfl, rfl⟩ := hw
  exact kk H1 locs1 (by rw [← ht]; exact hB) hS1
theorem cw_vv (S : CallFix p m c cc nL s args Ts own) (hX : xS A X) (hK : va_K D vwCl (tyA cy) s) (hx : X s) (hS : va_S A s.heap H locs) (hP : va_P D vwCl (w f t) H)
    (hM : Met l y ws rm (va_Pc (.ref b :: As) (pre D cy w X f t)) (va_Qv (fun (u : mM × Int64) => u = (f', t')) (atW D w) A) 0 0 A) (cw : CallW R s args own C index y bytes maxL ret ws rm 0 0 n)
    (hrecv : ∃ cell : Cell, H[b]? = some cell ∧ cell.vm.isStatics = false ∧ s.vm.findClass C = some cell.cls) (hn : As.length = n) (hsize : ls.size = nL) (hst : st = As.reverse ++ .ref b :: rest) (hW : (rest.map fun v => v.category).sum ≤ 8) (hc : 0 ≤ R.cells ∧ 0 ≤ R.slots) (hdg : decode cc pc = .ok (.invokevirtual index, 3))
    (kk : ∀ (H1 : Heap) (locs1 : List Loc), va_P D vwCl (w f' t') H1 → va_S A s.heap H1 locs1 → W p l e R s m args below meth c H1 locs1 0 0 Q (F0 m (pc + 3) ls rest)) : W p l e R s m args below meth c H locs 0 0 Q (F0 m pc ls st) := by
  refine va_callv (va_runV (As := As) (rest := rest) S hM cw ⟨pre_blind hX, hrecv, pre_go hX hK hx hS hP _⟩ rfl hn hsize hst (lv_room hW) hdg hc) hS (fun q _ h => h) (fun q h => h) (fun u t2 H1 locs1 ht hvm hw hB hz1 hk1 hS1 => ?_)
  obtain rfl := hw
  exact kk H1 locs1 (by rw [← ht]; exact hB) hS1
theorem cw_si {r : Int32} (S : CallFix p m c cc nL s args Ts own) (hX : xS A X) (hK : va_K D vwCl (tyA cy) s) (hx : X s) (hS : va_S A s.heap H locs) (hP : va_P D vwCl (w f t) H)
    (hM : Met l y ws rm (va_Pc As (pre D cy w X f t)) (va_Qi (fun (r2 : Int32) (u : mM × Int64) => r2 = r ∧ u = (f', t')) (atW D w) A) 0 0 A) (cw : CallB R s args own index y bytes maxL ret ws rm 0 0 n ∧ (Cond.static y).before args s = true)
    (hn : As.length = n) (hsize : ls.size = nL) (hst : st = As.reverse ++ rest) (hW : (rest.map fun v => v.category).sum ≤ 8) (hc : 0 ≤ R.cells ∧ 0 ≤ R.slots) (hdg : decode cc pc = .ok (.invokestatic index, 3))
    (kk : ∀ (H1 : Heap) (locs1 : List Loc), va_P D vwCl (w f' t') H1 → va_S A s.heap H1 locs1 → W p l e R s m args below meth c H1 locs1 0 0 Q (F0 m (pc + 3) ls (.int r :: rest))) : W p l e R s m args below meth c H locs 0 0 Q (F0 m pc ls st) := by
  refine va_calli (va_runS (As := As) (rest := rest) S hM cw ⟨pre_blind hX, pre_go hX hK hx hS hP _⟩ rfl hn hsize hst (lv_room hW) hdg hc) hS (fun q _ h => h) (fun q h => h) (fun r2 u t2 H1 locs1 ht hvm hw hB hz1 hk1 hS1 => ?_)
  obtain ⟨rfl, rfl⟩ := hw
  exact kk H1 locs1 (by rw [← ht]; exact hB) hS1
theorem cw_sv (S : CallFix p m c cc nL s args Ts own) (hX : xS A X) (hK : va_K D vwCl (tyA cy) s) (hx : X s) (hS : va_S A s.heap H locs) (hP : va_P D vwCl (w f t) H)
    (hM : Met l y ws rm (va_Pc As (pre D cy w X f t)) (va_Qv (fun (u : mM × Int64) => u = (f', t')) (atW D w) A) 0 0 A) (cw : CallB R s args own index y bytes maxL ret ws rm 0 0 n ∧ (Cond.static y).before args s = true)
    (hn : As.length = n) (hsize : ls.size = nL) (hst : st = As.reverse ++ rest) (hW : (rest.map fun v => v.category).sum ≤ 8) (hc : 0 ≤ R.cells ∧ 0 ≤ R.slots) (hdg : decode cc pc = .ok (.invokestatic index, 3))
    (kk : ∀ (H1 : Heap) (locs1 : List Loc), va_P D vwCl (w f' t') H1 → va_S A s.heap H1 locs1 → W p l e R s m args below meth c H1 locs1 0 0 Q (F0 m (pc + 3) ls rest)) : W p l e R s m args below meth c H locs 0 0 Q (F0 m pc ls st) := by
  refine va_callv (va_runS (As := As) (rest := rest) S hM cw ⟨pre_blind hX, pre_go hX hK hx hS hP _⟩ rfl hn hsize hst (lv_room hW) hdg hc) hS (fun q _ h => h) (fun q h => h) (fun u t2 H1 locs1 ht hvm hw hB hz1 hk1 hS1 => ?_)
  obtain rfl := hw
  exact kk H1 locs1 (by rw [← ht]; exact hB) hS1
theorem cw_sl {r : Int64} (S : CallFix p m c cc nL s args Ts own) (hX : xS A X) (hK : va_K D vwCl (tyA cy) s) (hx : X s) (hS : va_S A s.heap H locs) (hP : va_P D vwCl (w f t) H)
    (hM : Met l y ws rm (va_Pc As (pre D cy w X f t)) (va_Ql (fun (r2 : Int64) (u : mM × Int64) => r2 = r ∧ u = (f', t')) (atW D w) A) 0 0 A) (cw : CallB R s args own index y bytes maxL ret ws rm 0 0 n ∧ (Cond.static y).before args s = true)
    (hn : As.length = n) (hsize : ls.size = nL) (hst : st = As.reverse ++ rest) (hW : (rest.map fun v => v.category).sum ≤ 8) (hc : 0 ≤ R.cells ∧ 0 ≤ R.slots) (hdg : decode cc pc = .ok (.invokestatic index, 3))
    (kk : ∀ (H1 : Heap) (locs1 : List Loc), va_P D vwCl (w f' t') H1 → va_S A s.heap H1 locs1 → W p l e R s m args below meth c H1 locs1 0 0 Q (F0 m (pc + 3) ls (.long r :: rest))) : W p l e R s m args below meth c H locs 0 0 Q (F0 m pc ls st) := by
  refine va_calll (va_runS (As := As) (rest := rest) S hM cw ⟨pre_blind hX, pre_go hX hK hx hS hP _⟩ rfl hn hsize hst (lv_room hW) hdg hc) hS (fun q _ h => h) (fun q h => h) (fun r2 u t2 H1 locs1 ht hvm hw hB hz1 hk1 hS1 => ?_)
  obtain ⟨rfl, rfl⟩ := hw
  exact kk H1 locs1 (by rw [← ht]; exact hB) hS1
theorem cw_ni {r : Int32} (S : CallFix p m c cc nL s args Ts own) (hX : xS A X) (hK : va_K D vwCl (tyA cy) s) (hx : X s) (hS : va_S A s.heap H locs) (hP : va_P D vwCl (w f t) H)
    (hM : Met l y ws rm (va_Pc As (pre D cy w X f t)) (va_Qi (fun (r2 : Int32) (u : mM × Int64) => r2 = r ∧ u = (f', t')) (atW D w) A) 0 0 A) (cw : va_CN R s args own index y host bytes maxL ret ws rm 0 0 n ∧ (Cond.static y).before args s = true ∧ True)
    (hn : As.length = n) (hsize : ls.size = nL) (hst : st = As.reverse ++ rest) (hW : (rest.map fun v => v.category).sum ≤ 8) (hc : 0 ≤ R.cells ∧ 0 ≤ R.slots) (hdg : decode cc pc = .ok (.invokestatic index, 3))
    (kk : ∀ (H1 : Heap) (locs1 : List Loc), va_P D vwCl (w f' t') H1 → va_S A s.heap H1 locs1 → W p l e R s m args below meth c H1 locs1 0 0 Q (F0 m (pc + 3) ls (.int r :: rest))) : W p l e R s m args below meth c H locs 0 0 Q (F0 m pc ls st) := by
  refine va_calli (va_runSN (As := As) (rest := rest) S hM cw ⟨pre_blind hX, pre_go hX hK hx hS hP _⟩ rfl hn hsize hst (lv_room hW) hdg hc) hS (fun q _ h => h) (fun q h => h) (fun r2 u t2 H1 locs1 ht hvm hw hB hz1 hk1 hS1 => ?_)
  obtain ⟨rfl, rfl⟩ := hw
  exact kk H1 locs1 (by rw [← ht]; exact hB) hS1
end CW
theorem no_none {α : Type} {r : α} {P : Prop} (h : (none : Option α) = some r) : P := by cases h
section NM
variable {p : Program} {l : Launch} {e : Env} {R : Room} {s : State} {m : MethodId} {args : Array Value} {below : List Frame} {meth : Method} {c : Code} {H : Heap} {locs : List Loc} {Q : State → Prop} {pc : Nat} {ls : Array Slot} {rest : List Value}
theorem lv_nmi {x y : Int32} (h : y = x) (k : W p l e R s m args below meth c H locs 0 0 Q (F0 m pc ls (.int y :: rest))) : W p l e R s m args below meth c H locs 0 0 Q (F0 m pc ls (.int x :: rest)) := h ▸ k
theorem lv_nml {x y : Int64} (h : y = x) (k : W p l e R s m args below meth c H locs 0 0 Q (F0 m pc ls (.long y :: rest))) : W p l e R s m args below meth c H locs 0 0 Q (F0 m pc ls (.long x :: rest)) := h ▸ k
end NM
/-- what holds all through a method's body -/
def cX (p : Program) (s : State) (m : MethodId) (args : Array Value) (meth : Method) (c : Code) (cc : ByteArray) (nL : Nat) (ret : Option FieldType) (own : String) (Ts : List Cond) (D : va_G) (cy : Nat → ClassId) (X : State → Prop) : Prop := p.tables.exec = Jvm.exec ∧ c.code = cc ∧ meth.sig.returnType = ret ∧ c.maxLocals = nL ∧ s.vm.findClass own = some m.cls ∧ (∀ w ∈ Ts, w.before args s = true) ∧ meth.locks = false ∧ va_K D vwCl (tyA cy) s ∧ X s
