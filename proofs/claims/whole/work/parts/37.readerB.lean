variable {p : Program} {l : Launch} {e : Env} {R : Room} {s : State} {m : MethodId} {args : Array Value} {below : List Frame} {meth : Method} {c : Code} {Q : State → Prop} {D : va_G} {cy : Nat → ClassId} {ad sk sv : Nat → Nat}
def q_X4_readSemicolon (N : Nat) (f : mM) : Option (Int32 × mM) := bi (q_X4_readToken N f) (fun f1 => if (f1 12 2) = 2 then rz 1 (some (1, f1)) else rz 0 (some (0, f1)))
set_option maxHeartbeats 4000000 in
set_option maxRecDepth 100000 in
theorem b_X4_readSemicolon (C0 : cX p s m args meth c cX4_readSemicolon 1 (some .boolean) RX4 wsX4_readSemicolon D cy (xP ad sk sv)) (hj : jP ad) (hR : 7 ≤ R.frames ∧ 148 ≤ R.locals) (N : Nat)  (f : mM) (t : Int64) (r : Int32) (fR : mM) (hf : q_X4_readSemicolon N f = some (r, fR)) (kr : ∀ (H : Heap) (locs : List Loc) (ls : Array Slot) (pc : Nat), decode cX4_readSemicolon pc = .ok (.ireturn, 1) → narrow .boolean (.int r) = .int r → va_P D vwCl (wP ad cy fR t) H → va_S (aP ad) s.heap H locs → W p l e R s m args below meth c H locs 0 0 Q (F0 m pc ls [.int r])) (H : Heap) (locs : List Loc) (ls : Array Slot) (hP : va_P D vwCl (wP ad cy f t) H) (hS : va_S (aP ad) s.heap H locs) (hl : lv_has ls 1 [(0, .ref (ad 12))]) : W p l e R s m args below meth c H locs 0 0 Q (F0 m 0 ls []) := by
  obtain ⟨hx, hb, hr, hml, hown, hts, hlocks, hK, hX0⟩ := id C0
  have lk18 := hts (.fieldLink RX4 18 "PlankNine$Reader" "token" "I") (List.mem_of_getElem? (i := 1) rfl)
  have hiX4 : ∀ w ∈ u_ws RX4 TX4 7, w ∈ wsX4_readSemicolon := fun w h => List.mem_cons_of_mem _ (List.mem_append_left _ (List.mem_append_right _ h))
  unfold q_X4_readSemicolon at hf
  refine lv_aload_n hx hb dX4_readSemicolon_0 rfl (lv_at hl 0 rfl) ?_
  obtain ⟨f1, hq2, hf⟩ := bi_out hf
  refine cw_vv (As := []) (rest := []) ⟨hx, hb, hml, hown, hts⟩ xP_S hK hX0 hS hP (c_X4_readToken hj l N f t f1 hq2) (cwV 0 hts gX4_readSemicolon_X4_readToken rfl rfl rfl (by decide +kernel) ⟨Nat.le_trans (Nat.le_of_ble_eq_true rfl) hR.1, Nat.le_trans (Nat.le_of_ble_eq_true rfl) hR.2⟩) (va_recv hK hP (ci := 4) (q0 := 12) rfl rfl) rfl hl.1 rfl (Nat.le_of_ble_eq_true rfl) ⟨Nat.zero_le _, Nat.zero_le _⟩ dX4_readSemicolon_1 (fun H locs hP hS => ?_)
  refine lv_aload_n hx hb dX4_readSemicolon_4 rfl (lv_at hl 0 rfl) ?_
  refine va_get (D := D) (ci := 4) (v := .int (f1 12 2)) (C := RX4) (T := TX4) (N := 7) hx hb hts hiX4 hown hK hP 12 rfl rfl 2 (by decide) lk18 (fun _ h9 => h9) rfl dX4_readSemicolon_5 ?_
  refine lv_iconst (v := 2) hx hb dX4_readSemicolon_8 (by decide) ?_
  refine lv_icmp_ne (tgt := 16) hx hb dX4_readSemicolon_9 (by decide) (fun c9 => ?_) (fun c9 => ?_)
  · have hf := itF hf c9
    refine lv_iconst (v := 0) hx hb dX4_readSemicolon_16 (by decide) ?_
    obtain ⟨hz, hf⟩ := rz_out hf
    obtain ⟨rfl, rfl⟩ := Prod.mk.inj (Option.some.inj hf)
    exact kr H locs ls 17 dX4_readSemicolon_17 hz hP hS
  · have hf := itT hf c9
    refine lv_iconst (v := 1) hx hb dX4_readSemicolon_12 (by decide) ?_
    refine lv_goto (tgt := 17) hx hb dX4_readSemicolon_13 (by decide) ?_
    obtain ⟨hz, hf⟩ := rz_out hf
    obtain ⟨rfl, rfl⟩ := Prod.mk.inj (Option.some.inj hf)
    exact kr H locs ls 17 dX4_readSemicolon_17 hz hP hS
set_option maxHeartbeats 4000000 in
set_option maxRecDepth 100000 in
theorem c_X4_readSemicolon (hj : jP ad) (l : Launch) (N : Nat)  (f : mM) (t : Int64) (r : Int32) (fR : mM) (hf : q_X4_readSemicolon N f = some (r, fR)) : Met l yX4_readSemicolon wsX4_readSemicolon ({ frames := 7, cells := 0, slots := 0, locals := 148 }) (va_Pc ([.ref (ad 12)]) (pre D cy (wP ad cy) (xP ad sk sv) f t)) (va_Qi (fun (r2 : Int32) (u : mM × Int64) => r2 = r ∧ u = (fR, t)) (atW D (wP ad cy)) (aP ad)) 0 0 (aP ad) := by
  refine Met.ofW (cc := cX4_readSemicolon) (maxL := 1) (ret := (some .boolean)) (by decide) rfl ?_
  intro p e s m args below meth c s₁ B hml hv
  obtain ⟨rfl, hP, hK, hX0⟩ := hv
  have hl := lv_entry ([.ref (ad 12)]) (n := 1) (Nat.le_of_ble_eq_true rfl)
  rw [lg_entry_eq]
  generalize (lg_sl ([.ref (ad 12)]) ++ List.replicate (1 - (lg_sl ([.ref (ad 12)])).length) Slot.unset).toArray = ls at hl ⊢
  have hlocks := B.notSynchronized
  exact b_X4_readSemicolon ⟨B.exec, B.bytes, B.returns, hml, findClass_of_methodNamed B.named, atoms_spec (ws := wsX4_readSemicolon) B.pre, hlocks, hK, hX0⟩ hj ⟨Nat.le_refl _, Nat.le_refl _⟩ N  f t r fR hf (fun H locs ls pc hd hz hP hS => W.zret B.exec B.bytes B.returns hz (fun t2 ht hW => ⟨⟨r, (fR, t), rfl, ⟨rfl, rfl⟩, by show va_P D vwCl _ t2.heap; rw [ht]; exact hP⟩, hS.F ht⟩) hS.2.2 hd) s.heap [] ls hP va_S.rf hl
def q_X4_readNumber (N : Nat) (x1 : Int32) (x2 : Int32) (x3 : Int32) (f : mM) : Option (Int32 × mM) := bi (q_X4_readToken N f) (fun f1 => if (f1 12 2) = 3 then bi (q_X9_isWithin (f1 12 5) x2 x3) (fun y3 => if y3 = 0 then rz 0 (some (0, f1)) else bi (q_X9_isWithin x1 0 2) (fun y5 => if y5 = 0 then rz 0 (some (0, f1)) else gi x1 3 (sq (st2 f1 22 (Int32.toNatClampNeg x1) (f1 12 5)) (fun f8 => rz 1 (some (1, f8)))))) else rz 0 (some (0, f1)))
set_option maxHeartbeats 4000000 in
set_option maxRecDepth 100000 in
theorem b_X4_readNumber (C0 : cX p s m args meth c cX4_readNumber 4 (some .boolean) RX4 wsX4_readNumber D cy (xP ad sk sv)) (hj : jP ad) (hR : 7 ≤ R.frames ∧ 148 ≤ R.locals) (N : Nat) (x1 : Int32) (x2 : Int32) (x3 : Int32) (f : mM) (t : Int64) (r : Int32) (fR : mM) (hf : q_X4_readNumber N x1 x2 x3 f = some (r, fR)) (kr : ∀ (H : Heap) (locs : List Loc) (ls : Array Slot) (pc : Nat), decode cX4_readNumber pc = .ok (.ireturn, 1) → narrow .boolean (.int r) = .int r → va_P D vwCl (wP ad cy fR t) H → va_S (aP ad) s.heap H locs → W p l e R s m args below meth c H locs 0 0 Q (F0 m pc ls [.int r])) (H : Heap) (locs : List Loc) (ls : Array Slot) (hP : va_P D vwCl (wP ad cy f t) H) (hS : va_S (aP ad) s.heap H locs) (hl : lv_has ls 4 [(0, .ref (ad 12)), (1, .int x1), (2, .int x2), (3, .int x3)]) : W p l e R s m args below meth c H locs 0 0 Q (F0 m 0 ls []) := by
  obtain ⟨hx, hb, hr, hml, hown, hts, hlocks, hK, hX0⟩ := id C0
  have lk18 := hts (.fieldLink RX4 18 "PlankNine$Reader" "token" "I") (List.mem_of_getElem? (i := 1) rfl)
  have hiX4 : ∀ w ∈ u_ws RX4 TX4 7, w ∈ wsX4_readNumber := fun w h => List.mem_cons_of_mem _ (List.mem_append_left _ (List.mem_append_right _ h))
  have lk28 := hts (.fieldLink RX4 28 "PlankNine$Reader" "value" "I") (List.mem_of_getElem? (i := 2) rfl)
  have lk31 := hts (.fieldLink RX4 31 "PlankNine$Reader" "numbers" "[I") (List.mem_of_getElem? (i := 3) rfl)
  unfold q_X4_readNumber at hf
  refine lv_aload_n hx hb dX4_readNumber_0 rfl (lv_at hl 0 rfl) ?_
  obtain ⟨f1, hq2, hf⟩ := bi_out hf
  refine cw_vv (As := []) (rest := []) ⟨hx, hb, hml, hown, hts⟩ xP_S hK hX0 hS hP (c_X4_readToken hj l N f t f1 hq2) (cwV 0 hts gX4_readNumber_X4_readToken rfl rfl rfl (by decide +kernel) ⟨Nat.le_trans (Nat.le_of_ble_eq_true rfl) hR.1, Nat.le_trans (Nat.le_of_ble_eq_true rfl) hR.2⟩) (va_recv hK hP (ci := 4) (q0 := 12) rfl rfl) rfl hl.1 rfl (Nat.le_of_ble_eq_true rfl) ⟨Nat.zero_le _, Nat.zero_le _⟩ dX4_readNumber_1 (fun H locs hP hS => ?_)
  refine lv_aload_n hx hb dX4_readNumber_4 rfl (lv_at hl 0 rfl) ?_
  refine va_get (D := D) (ci := 4) (v := .int (f1 12 2)) (C := RX4) (T := TX4) (N := 7) hx hb hts hiX4 hown hK hP 12 rfl rfl 2 (by decide) lk18 (fun _ h9 => h9) rfl dX4_readNumber_5 ?_
  refine lv_iconst (v := 3) hx hb dX4_readNumber_8 (by decide) ?_
  refine lv_icmp_ne (tgt := 33) hx hb dX4_readNumber_9 (by decide) (fun c9 => ?_) (fun c9 => ?_)
  · have hf := itF hf c9
    refine lv_iconst (v := 0) hx hb dX4_readNumber_33 (by decide) ?_
    obtain ⟨hz, hf⟩ := rz_out hf
    obtain ⟨rfl, rfl⟩ := Prod.mk.inj (Option.some.inj hf)
    exact kr H locs ls 34 dX4_readNumber_34 hz hP hS
  · have hf := itT hf c9
    refine lv_aload_n hx hb dX4_readNumber_12 rfl (lv_at hl 0 rfl) ?_
    refine va_get (D := D) (ci := 4) (v := .int (f1 12 5)) (C := RX4) (T := TX4) (N := 7) hx hb hts hiX4 hown hK hP 12 rfl rfl 5 (by decide) lk28 (fun _ h9 => h9) rfl dX4_readNumber_13 ?_
    refine lv_iload_n hx hb dX4_readNumber_16 rfl (lv_at hl 2 rfl) ?_
    refine lv_iload_n hx hb dX4_readNumber_17 rfl (lv_at hl 3 rfl) ?_
    obtain ⟨y3, hq4, hf⟩ := bi_out hf
    refine cw_ni (As := [.int (f1 12 5), .int x2, .int x3]) (rest := []) ⟨hx, hb, hml, hown, hts⟩ xP_S hK hX0 hS hP (c_X9_isWithin hj l (f1 12 5) x2 x3 f1 t y3 hq4) ⟨va_cnB 3 hts gX4_readNumber_X9_isWithin_n88 rfl rfl rfl (nlM_4 hX0) (hts (.initialized RX9) (List.mem_of_getElem? (i := 91) rfl)) (by decide +kernel) ⟨Nat.le_trans (Nat.le_of_ble_eq_true rfl) hR.1, Nat.le_trans (Nat.le_of_ble_eq_true rfl) hR.2⟩, hts (.static yX9_isWithin) (List.mem_of_getElem? (i := 90) rfl), trivial⟩ rfl hl.1 rfl (Nat.le_of_ble_eq_true rfl) ⟨Nat.zero_le _, Nat.zero_le _⟩ dX4_readNumber_18 (fun H locs hP hS => ?_)
    refine lv_if_eq (tgt := 33) hx hb dX4_readNumber_21 (by decide) (fun c21 => ?_) (fun c21 => ?_)
    · have hf := itT hf c21
      refine lv_iconst (v := 0) hx hb dX4_readNumber_33 (by decide) ?_
      obtain ⟨hz, hf⟩ := rz_out hf
      obtain ⟨rfl, rfl⟩ := Prod.mk.inj (Option.some.inj hf)
      exact kr H locs ls 34 dX4_readNumber_34 hz hP hS
    · have hf := itF hf c21
      refine lv_iload_n hx hb dX4_readNumber_24 rfl (lv_at hl 1 rfl) ?_
      refine lv_iconst (v := 0) hx hb dX4_readNumber_25 (by decide) ?_
      refine lv_iconst (v := 2) hx hb dX4_readNumber_26 (by decide) ?_
      obtain ⟨y5, hq6, hf⟩ := bi_out hf
      refine cw_ni (As := [.int x1, .int 0, .int 2]) (rest := []) ⟨hx, hb, hml, hown, hts⟩ xP_S hK hX0 hS hP (c_X9_isWithin hj l x1 0 2 f1 t y5 hq6) ⟨va_cnB 3 hts gX4_readNumber_X9_isWithin_n88 rfl rfl rfl (nlM_4 hX0) (hts (.initialized RX9) (List.mem_of_getElem? (i := 91) rfl)) (by decide +kernel) ⟨Nat.le_trans (Nat.le_of_ble_eq_true rfl) hR.1, Nat.le_trans (Nat.le_of_ble_eq_true rfl) hR.2⟩, hts (.static yX9_isWithin) (List.mem_of_getElem? (i := 90) rfl), trivial⟩ rfl hl.1 rfl (Nat.le_of_ble_eq_true rfl) ⟨Nat.zero_le _, Nat.zero_le _⟩ dX4_readNumber_27 (fun H locs hP hS => ?_)
      refine lv_if_ne (tgt := 35) hx hb dX4_readNumber_30 (by decide) (fun c30 => ?_) (fun c30 => ?_)
      · have hf := itF hf c30
        refine lv_aload_n hx hb dX4_readNumber_35 rfl (lv_at hl 0 rfl) ?_
        refine va_get (D := D) (ci := 4) (v := .ref (ad 22)) (C := RX4) (T := TX4) (N := 7) hx hb hts hiX4 hown hK hP 12 rfl rfl 6 (by decide) lk31 (fun _ h9 => h9) rfl dX4_readNumber_36 ?_
        refine lv_iload_n hx hb dX4_readNumber_39 rfl (lv_at hl 1 rfl) ?_
        refine lv_aload_n hx hb dX4_readNumber_40 rfl (lv_at hl 0 rfl) ?_
        refine va_get (D := D) (ci := 4) (v := .int (f1 12 5)) (C := RX4) (T := TX4) (N := 7) hx hb hts hiX4 hown hK hP 12 rfl rfl 5 (by decide) lk28 (fun _ h9 => h9) rfl dX4_readNumber_41 ?_
        obtain ⟨hin7, hf⟩ := gi_out hf
        obtain ⟨f8, ef8, hf⟩ := sq_out hf
        refine va_iast hx hb hK hP (dP hj f1 t) hS 22 1 rfl rfl hin7 dX4_readNumber_44 (fun H locs hP _ hS => ?_)
        have hP := sP_22 ef8 hP
        refine lv_iconst (v := 1) hx hb dX4_readNumber_45 (by decide) ?_
        obtain ⟨hz, hf⟩ := rz_out hf
        obtain ⟨rfl, rfl⟩ := Prod.mk.inj (Option.some.inj hf)
        exact kr H locs ls 46 dX4_readNumber_46 hz hP hS
      · have hf := itT hf c30
        refine lv_iconst (v := 0) hx hb dX4_readNumber_33 (by decide) ?_
        obtain ⟨hz, hf⟩ := rz_out hf
        obtain ⟨rfl, rfl⟩ := Prod.mk.inj (Option.some.inj hf)
        exact kr H locs ls 34 dX4_readNumber_34 hz hP hS
set_option maxHeartbeats 4000000 in
set_option maxRecDepth 100000 in
theorem c_X4_readNumber (hj : jP ad) (l : Launch) (N : Nat) (x1 : Int32) (x2 : Int32) (x3 : Int32) (f : mM) (t : Int64) (r : Int32) (fR : mM) (hf : q_X4_readNumber N x1 x2 x3 f = some (r, fR)) : Met l yX4_readNumber wsX4_readNumber ({ frames := 7, cells := 0, slots := 0, locals := 148 }) (va_Pc ([.ref (ad 12), .int x1, .int x2, .int x3]) (pre D cy (wP ad cy) (xP ad sk sv) f t)) (va_Qi (fun (r2 : Int32) (u : mM × Int64) => r2 = r ∧ u = (fR, t)) (atW D (wP ad cy)) (aP ad)) 0 0 (aP ad) := by
  refine Met.ofW (cc := cX4_readNumber) (maxL := 4) (ret := (some .boolean)) (by decide) rfl ?_
  intro p e s m args below meth c s₁ B hml hv
  obtain ⟨rfl, hP, hK, hX0⟩ := hv
  have hl := lv_entry ([.ref (ad 12), .int x1, .int x2, .int x3]) (n := 4) (Nat.le_of_ble_eq_true rfl)
  rw [lg_entry_eq]
  generalize (lg_sl ([.ref (ad 12), .int x1, .int x2, .int x3]) ++ List.replicate (4 - (lg_sl ([.ref (ad 12), .int x1, .int x2, .int x3])).length) Slot.unset).toArray = ls at hl ⊢
  have hlocks := B.notSynchronized
  exact b_X4_readNumber ⟨B.exec, B.bytes, B.returns, hml, findClass_of_methodNamed B.named, atoms_spec (ws := wsX4_readNumber) B.pre, hlocks, hK, hX0⟩ hj ⟨Nat.le_refl _, Nat.le_refl _⟩ N x1 x2 x3 f t r fR hf (fun H locs ls pc hd hz hP hS => W.zret B.exec B.bytes B.returns hz (fun t2 ht hW => ⟨⟨r, (fR, t), rfl, ⟨rfl, rfl⟩, by show va_P D vwCl _ t2.heap; rw [ht]; exact hP⟩, hS.F ht⟩) hS.2.2 hd) s.heap [] ls hP va_S.rf hl
def q_X4_addItem (x1 : Int32) (f : mM) : Option (mM) := if x1 = 4 then gi 0 3 (sq (st2 f 13 0 (f 22 (Int32.toNatClampNeg 0))) (fun f16 => some f16)) else if x1 = 5 then gi 0 3 (gi 1 3 (gi 2 3 (bi (q_X2_addPlank (f 22 (Int32.toNatClampNeg 0)) (f 22 (Int32.toNatClampNeg 1)) (f 22 (Int32.toNatClampNeg 2)) f) (fun f13 => some f13)))) else if x1 = 6 then gi 0 3 (gi 1 3 (bi (q_X2_addPerson (f 22 (Int32.toNatClampNeg 0)) (f 22 (Int32.toNatClampNeg 1)) f) (fun f8 => some f8))) else if x1 = 7 then gi 0 3 (gi 1 3 (gi 2 3 (bi (q_X2_addErrand (f 22 (Int32.toNatClampNeg 0)) (f 22 (Int32.toNatClampNeg 1)) (f 22 (Int32.toNatClampNeg 2)) f) (fun f4 => some f4)))) else some f
set_option maxHeartbeats 4000000 in
set_option maxRecDepth 100000 in
theorem b_X4_addItem (C0 : cX p s m args meth c cX4_addItem 2 none RX4 wsX4_addItem D cy (xP ad sk sv)) (hj : jP ad) (hR : 1 ≤ R.frames ∧ 23 ≤ R.locals) (x1 : Int32) (f : mM) (t : Int64) (fR : mM) (hf : q_X4_addItem x1 f = some fR) (kr : ∀ (H : Heap) (locs : List Loc) (ls : Array Slot) (pc : Nat), decode cX4_addItem pc = .ok (.return_, 1) → va_P D vwCl (wP ad cy fR t) H → va_S (aP ad) s.heap H locs → W p l e R s m args below meth c H locs 0 0 Q (F0 m pc ls [])) (H : Heap) (locs : List Loc) (ls : Array Slot) (hP : va_P D vwCl (wP ad cy f t) H) (hS : va_S (aP ad) s.heap H locs) (hl : lv_has ls 2 [(0, .ref (ad 12)), (1, .int x1)]) : W p l e R s m args below meth c H locs 0 0 Q (F0 m 0 ls []) := by
  obtain ⟨hx, hb, hr, hml, hown, hts, hlocks, hK, hX0⟩ := id C0
  have lk12 := hts (.fieldLink RX4 12 "PlankNine$Reader" "draft" "LPlankNine$Marsh;") (List.mem_of_getElem? (i := 1) rfl)
  have hiX4 : ∀ w ∈ u_ws RX4 TX4 7, w ∈ wsX4_addItem := fun w h => List.mem_cons_of_mem _ (List.mem_append_left _ (List.mem_append_right _ h))
  have lk31 := hts (.fieldLink RX4 31 "PlankNine$Reader" "numbers" "[I") (List.mem_of_getElem? (i := 2) rfl)
  have ln70 := nlF_4 (args := args) hX0
  have hiX2 : ∀ w ∈ u_ws RX2 TX2 12, w ∈ wsX4_addItem := fun w h => List.mem_cons_of_mem _ (List.mem_append_right _ h)
  unfold q_X4_addItem at hf
  refine lv_iload_n hx hb dX4_addItem_0 rfl (lv_at hl 1 rfl) ?_
  refine lv_iconst (v := 4) hx hb dX4_addItem_1 (by decide) ?_
  refine lv_icmp_ne (tgt := 21) hx hb dX4_addItem_2 (by decide) (fun c2 => ?_) (fun c2 => ?_)
  · have hf := itF hf c2
    refine lv_iload_n hx hb dX4_addItem_21 rfl (lv_at hl 1 rfl) ?_
    refine lv_iconst (v := 5) hx hb dX4_addItem_22 (by decide) ?_
    refine lv_icmp_ne (tgt := 54) hx hb dX4_addItem_23 (by decide) (fun c23 => ?_) (fun c23 => ?_)
    · have hf := itF hf c23
      refine lv_iload_n hx hb dX4_addItem_54 rfl (lv_at hl 1 rfl) ?_
      refine lv_bipush (v := 6) hx hb dX4_addItem_55 (by decide) ?_
      refine lv_icmp_ne (tgt := 82) hx hb dX4_addItem_57 (by decide) (fun c57 => ?_) (fun c57 => ?_)
      · have hf := itF hf c57
        refine lv_iload_n hx hb dX4_addItem_82 rfl (lv_at hl 1 rfl) ?_
        refine lv_bipush (v := 7) hx hb dX4_addItem_83 (by decide) ?_
        refine lv_icmp_ne (tgt := 113) hx hb dX4_addItem_85 (by decide) (fun c85 => ?_) (fun c85 => ?_)
        · have hf := itF hf c85
          obtain rfl := Option.some.inj hf
          exact kr H locs ls 113 dX4_addItem_113 hP hS
        · have hf := itT hf c85
          refine lv_aload_n hx hb dX4_addItem_88 rfl (lv_at hl 0 rfl) ?_
          refine va_get (D := D) (ci := 4) (v := .ref (ad 13)) (C := RX4) (T := TX4) (N := 7) hx hb hts hiX4 hown hK hP 12 rfl rfl 1 (by decide) lk12 (fun _ h9 => h9) rfl dX4_addItem_89 ?_
          refine lv_aload_n hx hb dX4_addItem_92 rfl (lv_at hl 0 rfl) ?_
          refine va_get (D := D) (ci := 4) (v := .ref (ad 22)) (C := RX4) (T := TX4) (N := 7) hx hb hts hiX4 hown hK hP 12 rfl rfl 6 (by decide) lk31 (fun _ h9 => h9) rfl dX4_addItem_93 ?_
          refine lv_iconst (v := 0) hx hb dX4_addItem_96 (by decide) ?_
          obtain ⟨hin1, hf⟩ := gi_out hf
          refine va_iald hx hb hK hP 22 1 rfl rfl hin1 dX4_addItem_97 ?_
          refine lv_aload_n hx hb dX4_addItem_98 rfl (lv_at hl 0 rfl) ?_
          refine va_get (D := D) (ci := 4) (v := .ref (ad 22)) (C := RX4) (T := TX4) (N := 7) hx hb hts hiX4 hown hK hP 12 rfl rfl 6 (by decide) lk31 (fun _ h9 => h9) rfl dX4_addItem_99 ?_
          refine lv_iconst (v := 1) hx hb dX4_addItem_102 (by decide) ?_
          obtain ⟨hin2, hf⟩ := gi_out hf
          refine va_iald hx hb hK hP 22 1 rfl rfl hin2 dX4_addItem_103 ?_
          refine lv_aload_n hx hb dX4_addItem_104 rfl (lv_at hl 0 rfl) ?_
          refine va_get (D := D) (ci := 4) (v := .ref (ad 22)) (C := RX4) (T := TX4) (N := 7) hx hb hts hiX4 hown hK hP 12 rfl rfl 6 (by decide) lk31 (fun _ h9 => h9) rfl dX4_addItem_105 ?_
          refine lv_iconst (v := 2) hx hb dX4_addItem_108 (by decide) ?_
          obtain ⟨hin3, hf⟩ := gi_out hf
          refine va_iald hx hb hK hP 22 1 rfl rfl hin3 dX4_addItem_109 ?_
          obtain ⟨f4, hq5, hf⟩ := bi_out hf
          refine cw_vv (As := [.int (f 22 (Int32.toNatClampNeg 0)), .int (f 22 (Int32.toNatClampNeg 1)), .int (f 22 (Int32.toNatClampNeg 2))]) (rest := []) ⟨hx, hb, hml, hown, hts⟩ xP_S hK hX0 hS hP (c_X2_addErrand hj l (f 22 (Int32.toNatClampNeg 0)) (f 22 (Int32.toNatClampNeg 1)) (f 22 (Int32.toNatClampNeg 2)) f t f4 hq5) (cwV 3 hts gX4_addItem_X2_addErrand rfl rfl rfl (by decide +kernel) ⟨Nat.le_trans (Nat.le_of_ble_eq_true rfl) hR.1, Nat.le_trans (Nat.le_of_ble_eq_true rfl) hR.2⟩) (va_recv hK hP (ci := 2) (q0 := 13) rfl rfl) rfl hl.1 rfl (Nat.le_of_ble_eq_true rfl) ⟨Nat.zero_le _, Nat.zero_le _⟩ dX4_addItem_110 (fun H locs hP hS => ?_)
          obtain rfl := Option.some.inj hf
          exact kr H locs ls 113 dX4_addItem_113 hP hS
      · have hf := itT hf c57
        refine lv_aload_n hx hb dX4_addItem_60 rfl (lv_at hl 0 rfl) ?_
        refine va_get (D := D) (ci := 4) (v := .ref (ad 13)) (C := RX4) (T := TX4) (N := 7) hx hb hts hiX4 hown hK hP 12 rfl rfl 1 (by decide) lk12 (fun _ h9 => h9) rfl dX4_addItem_61 ?_
        refine lv_aload_n hx hb dX4_addItem_64 rfl (lv_at hl 0 rfl) ?_
        refine va_get (D := D) (ci := 4) (v := .ref (ad 22)) (C := RX4) (T := TX4) (N := 7) hx hb hts hiX4 hown hK hP 12 rfl rfl 6 (by decide) lk31 (fun _ h9 => h9) rfl dX4_addItem_65 ?_
        refine lv_iconst (v := 0) hx hb dX4_addItem_68 (by decide) ?_
        obtain ⟨hin6, hf⟩ := gi_out hf
        refine va_iald hx hb hK hP 22 1 rfl rfl hin6 dX4_addItem_69 ?_
        refine lv_aload_n hx hb dX4_addItem_70 rfl (lv_at hl 0 rfl) ?_
        refine va_get (D := D) (ci := 4) (v := .ref (ad 22)) (C := RX4) (T := TX4) (N := 7) hx hb hts hiX4 hown hK hP 12 rfl rfl 6 (by decide) lk31 (fun _ h9 => h9) rfl dX4_addItem_71 ?_
        refine lv_iconst (v := 1) hx hb dX4_addItem_74 (by decide) ?_
        obtain ⟨hin7, hf⟩ := gi_out hf
        refine va_iald hx hb hK hP 22 1 rfl rfl hin7 dX4_addItem_75 ?_
        obtain ⟨f8, hq9, hf⟩ := bi_out hf
        refine cw_vv (As := [.int (f 22 (Int32.toNatClampNeg 0)), .int (f 22 (Int32.toNatClampNeg 1))]) (rest := []) ⟨hx, hb, hml, hown, hts⟩ xP_S hK hX0 hS hP (c_X2_addPerson hj l (f 22 (Int32.toNatClampNeg 0)) (f 22 (Int32.toNatClampNeg 1)) f t f8 hq9) (cwV 2 hts gX4_addItem_X2_addPerson rfl rfl rfl (by decide +kernel) ⟨Nat.le_trans (Nat.le_of_ble_eq_true rfl) hR.1, Nat.le_trans (Nat.le_of_ble_eq_true rfl) hR.2⟩) (va_recv hK hP (ci := 2) (q0 := 13) rfl rfl) rfl hl.1 rfl (Nat.le_of_ble_eq_true rfl) ⟨Nat.zero_le _, Nat.zero_le _⟩ dX4_addItem_76 (fun H locs hP hS => ?_)
        refine lv_goto (tgt := 113) hx hb dX4_addItem_79 (by decide) ?_
        obtain rfl := Option.some.inj hf
        exact kr H locs ls 113 dX4_addItem_113 hP hS
    · have hf := itT hf c23
      refine lv_aload_n hx hb dX4_addItem_26 rfl (lv_at hl 0 rfl) ?_
      refine va_get (D := D) (ci := 4) (v := .ref (ad 13)) (C := RX4) (T := TX4) (N := 7) hx hb hts hiX4 hown hK hP 12 rfl rfl 1 (by decide) lk12 (fun _ h9 => h9) rfl dX4_addItem_27 ?_
      refine lv_aload_n hx hb dX4_addItem_30 rfl (lv_at hl 0 rfl) ?_
      refine va_get (D := D) (ci := 4) (v := .ref (ad 22)) (C := RX4) (T := TX4) (N := 7) hx hb hts hiX4 hown hK hP 12 rfl rfl 6 (by decide) lk31 (fun _ h9 => h9) rfl dX4_addItem_31 ?_
      refine lv_iconst (v := 0) hx hb dX4_addItem_34 (by decide) ?_
      obtain ⟨hin10, hf⟩ := gi_out hf
      refine va_iald hx hb hK hP 22 1 rfl rfl hin10 dX4_addItem_35 ?_
      refine lv_aload_n hx hb dX4_addItem_36 rfl (lv_at hl 0 rfl) ?_
      refine va_get (D := D) (ci := 4) (v := .ref (ad 22)) (C := RX4) (T := TX4) (N := 7) hx hb hts hiX4 hown hK hP 12 rfl rfl 6 (by decide) lk31 (fun _ h9 => h9) rfl dX4_addItem_37 ?_
      refine lv_iconst (v := 1) hx hb dX4_addItem_40 (by decide) ?_
      obtain ⟨hin11, hf⟩ := gi_out hf
      refine va_iald hx hb hK hP 22 1 rfl rfl hin11 dX4_addItem_41 ?_
      refine lv_aload_n hx hb dX4_addItem_42 rfl (lv_at hl 0 rfl) ?_
      refine va_get (D := D) (ci := 4) (v := .ref (ad 22)) (C := RX4) (T := TX4) (N := 7) hx hb hts hiX4 hown hK hP 12 rfl rfl 6 (by decide) lk31 (fun _ h9 => h9) rfl dX4_addItem_43 ?_
      refine lv_iconst (v := 2) hx hb dX4_addItem_46 (by decide) ?_
      obtain ⟨hin12, hf⟩ := gi_out hf
      refine va_iald hx hb hK hP 22 1 rfl rfl hin12 dX4_addItem_47 ?_
      obtain ⟨f13, hq14, hf⟩ := bi_out hf
      refine cw_vv (As := [.int (f 22 (Int32.toNatClampNeg 0)), .int (f 22 (Int32.toNatClampNeg 1)), .int (f 22 (Int32.toNatClampNeg 2))]) (rest := []) ⟨hx, hb, hml, hown, hts⟩ xP_S hK hX0 hS hP (c_X2_addPlank hj l (f 22 (Int32.toNatClampNeg 0)) (f 22 (Int32.toNatClampNeg 1)) (f 22 (Int32.toNatClampNeg 2)) f t f13 hq14) (cwV 3 hts gX4_addItem_X2_addPlank rfl rfl rfl (by decide +kernel) ⟨Nat.le_trans (Nat.le_of_ble_eq_true rfl) hR.1, Nat.le_trans (Nat.le_of_ble_eq_true rfl) hR.2⟩) (va_recv hK hP (ci := 2) (q0 := 13) rfl rfl) rfl hl.1 rfl (Nat.le_of_ble_eq_true rfl) ⟨Nat.zero_le _, Nat.zero_le _⟩ dX4_addItem_48 (fun H locs hP hS => ?_)
      refine lv_goto (tgt := 113) hx hb dX4_addItem_51 (by decide) ?_
      obtain rfl := Option.some.inj hf
      exact kr H locs ls 113 dX4_addItem_113 hP hS
  · have hf := itT hf c2
    refine lv_aload_n hx hb dX4_addItem_5 rfl (lv_at hl 0 rfl) ?_
    refine va_get (D := D) (ci := 4) (v := .ref (ad 13)) (C := RX4) (T := TX4) (N := 7) hx hb hts hiX4 hown hK hP 12 rfl rfl 1 (by decide) lk12 (fun _ h9 => h9) rfl dX4_addItem_6 ?_
    refine lv_aload_n hx hb dX4_addItem_9 rfl (lv_at hl 0 rfl) ?_
    refine va_get (D := D) (ci := 4) (v := .ref (ad 22)) (C := RX4) (T := TX4) (N := 7) hx hb hts hiX4 hown hK hP 12 rfl rfl 6 (by decide) lk31 (fun _ h9 => h9) rfl dX4_addItem_10 ?_
    refine lv_iconst (v := 0) hx hb dX4_addItem_13 (by decide) ?_
    obtain ⟨hin15, hf⟩ := gi_out hf
    refine va_iald hx hb hK hP 22 1 rfl rfl hin15 dX4_addItem_14 ?_
    obtain ⟨f16, ef16, hf⟩ := sq_out hf
    refine va_putN (D := D) (ci := 2) (v := .int (f 22 (Int32.toNatClampNeg 0))) (ty := .int) (C := RX2) (T := TX2) (N := 12) hx hb hts hiX2 tyX2 tyX2_ok nmX2 hown hK hP (dP hj f t) hS 13 rfl rfl 0 (by decide) ln70 (fun _ h9 => h9) rfl (by decide +kernel) rfl rfl (Nat.le_of_ble_eq_true rfl) dX4_addItem_15 (fun H locs hP _ hS => ?_)
    have hP := sP_13_0 ef16 hP
    refine lv_goto (tgt := 113) hx hb dX4_addItem_18 (by decide) ?_
    obtain rfl := Option.some.inj hf
    exact kr H locs ls 113 dX4_addItem_113 hP hS
set_option maxHeartbeats 4000000 in
set_option maxRecDepth 100000 in
theorem c_X4_addItem (hj : jP ad) (l : Launch) (x1 : Int32) (f : mM) (t : Int64) (fR : mM) (hf : q_X4_addItem x1 f = some fR) : Met l yX4_addItem wsX4_addItem ({ frames := 1, cells := 0, slots := 0, locals := 23 }) (va_Pc ([.ref (ad 12), .int x1]) (pre D cy (wP ad cy) (xP ad sk sv) f t)) (va_Qv (fun (u : mM × Int64) => u = (fR, t)) (atW D (wP ad cy)) (aP ad)) 0 0 (aP ad) := by
  refine Met.ofW (cc := cX4_addItem) (maxL := 2) (ret := none) (by decide) rfl ?_
  intro p e s m args below meth c s₁ B hml hv
  obtain ⟨rfl, hP, hK, hX0⟩ := hv
  have hl := lv_entry ([.ref (ad 12), .int x1]) (n := 2) (Nat.le_of_ble_eq_true rfl)
  rw [lg_entry_eq]
  generalize (lg_sl ([.ref (ad 12), .int x1]) ++ List.replicate (2 - (lg_sl ([.ref (ad 12), .int x1])).length) Slot.unset).toArray = ls at hl ⊢
  have hlocks := B.notSynchronized
  exact b_X4_addItem ⟨B.exec, B.bytes, B.returns, hml, findClass_of_methodNamed B.named, atoms_spec (ws := wsX4_addItem) B.pre, hlocks, hK, hX0⟩ hj ⟨Nat.le_refl _, Nat.le_refl _⟩ x1 f t fR hf (fun H locs ls pc hd hP hS => W.vret B.exec B.bytes B.returns (fun t2 ht hW => ⟨⟨(fR, t), rfl, rfl, by show va_P D vwCl _ t2.heap; rw [ht]; exact hP⟩, hS.F ht⟩) hS.2.2 hd) s.heap [] ls hP va_S.rf hl
def q_X4_readNumbers (N : Nat) (x1 : Int32) (f : mM) : Option (Int32 × mM) := sq ((f 13 0) - 1) (fun x2_1 => if x1 = 4 then bi2 (q_X4_readNumber N 0 2 6 f) (fun y2 f3 => rz y2 (some (y2, f3))) else if x1 = 5 then bi2 (q_X4_readNumber N 0 0 x2_1 f) (fun y5 f6 => if y5 = 0 then rz 0 (some (0, f6)) else bi2 (q_X4_readNumber N 1 0 x2_1 f6) (fun y8 f9 => if y8 = 0 then rz 0 (some (0, f9)) else gi 1 3 (gi 0 3 (if (f9 22 (Int32.toNatClampNeg 1)) = (f9 22 (Int32.toNatClampNeg 0)) then rz 0 (some (0, f9)) else bi2 (q_X4_readNumber N 2 0 9 f9) (fun y13 f14 => if y13 = 0 then rz 0 (some (0, f14)) else rz 1 (some (1, f14))))))) else if x1 = 6 then bi2 (q_X4_readNumber N 0 1 3 f) (fun y16 f17 => if y16 = 0 then rz 0 (some (0, f17)) else bi2 (q_X4_readNumber N 1 1 2 f17) (fun y19 f20 => if y19 = 0 then rz 0 (some (0, f20)) else rz 1 (some (1, f20)))) else if x1 = 7 then bi2 (q_X4_readNumber N 0 0 ((f 13 2) - 1) f) (fun y22 f23 => if y22 = 0 then rz 0 (some (0, f23)) else bi2 (q_X4_readNumber N 1 0 x2_1 f23) (fun y25 f26 => if y25 = 0 then rz 0 (some (0, f26)) else bi2 (q_X4_readNumber N 2 0 x2_1 f26) (fun y28 f29 => if y28 = 0 then rz 0 (some (0, f29)) else gi 2 3 (gi 1 3 (if (f29 22 (Int32.toNatClampNeg 2)) = (f29 22 (Int32.toNatClampNeg 1)) then rz 0 (some (0, f29)) else rz 1 (some (1, f29))))))) else rz 0 (some (0, f)))
set_option maxHeartbeats 4000000 in
set_option maxRecDepth 100000 in
theorem b_X4_readNumbers (C0 : cX p s m args meth c cX4_readNumbers 3 (some .boolean) RX4 wsX4_readNumbers D cy (xP ad sk sv)) (hj : jP ad) (hR : 8 ≤ R.frames ∧ 171 ≤ R.locals) (N : Nat) (x1 : Int32) (f : mM) (t : Int64) (r : Int32) (fR : mM) (hf : q_X4_readNumbers N x1 f = some (r, fR)) (kr : ∀ (H : Heap) (locs : List Loc) (ls : Array Slot) (pc : Nat), decode cX4_readNumbers pc = .ok (.ireturn, 1) → narrow .boolean (.int r) = .int r → va_P D vwCl (wP ad cy fR t) H → va_S (aP ad) s.heap H locs → W p l e R s m args below meth c H locs 0 0 Q (F0 m pc ls [.int r])) (H : Heap) (locs : List Loc) (ls : Array Slot) (hP : va_P D vwCl (wP ad cy f t) H) (hS : va_S (aP ad) s.heap H locs) (hl : lv_has ls 3 [(0, .ref (ad 12)), (1, .int x1)]) : W p l e R s m args below meth c H locs 0 0 Q (F0 m 0 ls []) := by
  obtain ⟨hx, hb, hr, hml, hown, hts, hlocks, hK, hX0⟩ := id C0
  have lk12 := hts (.fieldLink RX4 12 "PlankNine$Reader" "draft" "LPlankNine$Marsh;") (List.mem_of_getElem? (i := 1) rfl)
  have hiX4 : ∀ w ∈ u_ws RX4 TX4 7, w ∈ wsX4_readNumbers := fun w h => List.mem_cons_of_mem _ (List.mem_append_left _ (List.mem_append_left _ (List.mem_append_right _ h)))
  have ln70 := nlF_4 (args := args) hX0
  have hiX2 : ∀ w ∈ u_ws RX2 TX2 12, w ∈ wsX4_readNumbers := fun w h => List.mem_cons_of_mem _ (List.mem_append_left _ (List.mem_append_right _ h))
  have lk31 := hts (.fieldLink RX4 31 "PlankNine$Reader" "numbers" "[I") (List.mem_of_getElem? (i := 2) rfl)
  have ln64 := nlF_13 (args := args) hX0
  unfold q_X4_readNumbers at hf
  refine lv_aload_n hx hb dX4_readNumbers_0 rfl (lv_at hl 0 rfl) ?_
  refine va_get (D := D) (ci := 4) (v := .ref (ad 13)) (C := RX4) (T := TX4) (N := 7) hx hb hts hiX4 hown hK hP 12 rfl rfl 1 (by decide) lk12 (fun _ h9 => h9) rfl dX4_readNumbers_1 ?_
  refine va_getN (D := D) (ci := 2) (v := .int (f 13 0)) (C := RX2) (T := TX2) (N := 12) hx hb hts hiX2 hown hK hP 13 rfl rfl 0 (by decide) ln70 (fun _ h9 => h9) rfl dX4_readNumbers_4 ?_
  refine lv_iconst (v := 1) hx hb dX4_readNumbers_7 (by decide) ?_
  refine lv_isub hx hb dX4_readNumbers_8 ?_
  obtain ⟨x2_1, ex2_1, hf⟩ := sq_out hf
  refine lv_nmi ex2_1 ?_
  refine lv_istore_n (lv' := [(2, .int x2_1), (0, .ref (ad 12)), (1, .int x1)]) hx hb dX4_readNumbers_9 rfl hl (by decide) rfl (fun ls hl => ?_)
  refine lv_iload_n hx hb dX4_readNumbers_10 rfl (lv_at hl 2 rfl) ?_
  by_cases c11_0 : x1 = 4
  · have hf := itT hf c11_0
    refine lv_tableIn (tgt := 40) hx hb dX4_readNumbers_11 (by rw [c11_0]; decide) (by rw [c11_0]; decide) (by rw [c11_0]; rfl) (by decide) ?_
    refine lv_aload_n hx hb dX4_readNumbers_40 rfl (lv_at hl 1 rfl) ?_
    refine lv_iconst (v := 0) hx hb dX4_readNumbers_41 (by decide) ?_
    refine lv_iconst (v := 2) hx hb dX4_readNumbers_42 (by decide) ?_
    refine lv_bipush (v := 6) hx hb dX4_readNumbers_43 (by decide) ?_
    obtain ⟨y2, f3, hq4, hf⟩ := bi2_out hf
    refine cw_vi (As := [.int 0, .int 2, .int 6]) (rest := []) ⟨hx, hb, hml, hown, hts⟩ xP_S hK hX0 hS hP (c_X4_readNumber hj l N 0 2 6 f t y2 f3 hq4) (cwV 3 hts gX4_readNumbers_X4_readNumber rfl rfl rfl (by decide +kernel) ⟨Nat.le_trans (Nat.le_of_ble_eq_true rfl) hR.1, Nat.le_trans (Nat.le_of_ble_eq_true rfl) hR.2⟩) (va_recv hK hP (ci := 4) (q0 := 12) rfl rfl) rfl hl.1 rfl (Nat.le_of_ble_eq_true rfl) ⟨Nat.zero_le _, Nat.zero_le _⟩ dX4_readNumbers_45 (fun H locs hP hS => ?_)
    obtain ⟨hz, hf⟩ := rz_out hf
    obtain ⟨rfl, rfl⟩ := Prod.mk.inj (Option.some.inj hf)
    exact kr H locs ls 48 dX4_readNumbers_48 hz hP hS
  have hf := itF hf c11_0
  by_cases c11_1 : x1 = 5
  · have hf := itT hf c11_1
    refine lv_tableIn (tgt := 49) hx hb dX4_readNumbers_11 (by rw [c11_1]; decide) (by rw [c11_1]; decide) (by rw [c11_1]; rfl) (by decide) ?_
    refine lv_aload_n hx hb dX4_readNumbers_49 rfl (lv_at hl 1 rfl) ?_
    refine lv_iconst (v := 0) hx hb dX4_readNumbers_50 (by decide) ?_
    refine lv_iconst (v := 0) hx hb dX4_readNumbers_51 (by decide) ?_
    refine lv_iload_n hx hb dX4_readNumbers_52 rfl (lv_at hl 0 rfl) ?_
    obtain ⟨y5, f6, hq7, hf⟩ := bi2_out hf
    refine cw_vi (As := [.int 0, .int 0, .int x2_1]) (rest := []) ⟨hx, hb, hml, hown, hts⟩ xP_S hK hX0 hS hP (c_X4_readNumber hj l N 0 0 x2_1 f t y5 f6 hq7) (cwV 3 hts gX4_readNumbers_X4_readNumber rfl rfl rfl (by decide +kernel) ⟨Nat.le_trans (Nat.le_of_ble_eq_true rfl) hR.1, Nat.le_trans (Nat.le_of_ble_eq_true rfl) hR.2⟩) (va_recv hK hP (ci := 4) (q0 := 12) rfl rfl) rfl hl.1 rfl (Nat.le_of_ble_eq_true rfl) ⟨Nat.zero_le _, Nat.zero_le _⟩ dX4_readNumbers_53 (fun H locs hP hS => ?_)
    refine lv_if_eq (tgt := 99) hx hb dX4_readNumbers_56 (by decide) (fun c56 => ?_) (fun c56 => ?_)
    · have hf := itT hf c56
      refine lv_iconst (v := 0) hx hb dX4_readNumbers_99 (by decide) ?_
      obtain ⟨hz, hf⟩ := rz_out hf
      obtain ⟨rfl, rfl⟩ := Prod.mk.inj (Option.some.inj hf)
      exact kr H locs ls 100 dX4_readNumbers_100 hz hP hS
    · have hf := itF hf c56
      refine lv_aload_n hx hb dX4_readNumbers_59 rfl (lv_at hl 1 rfl) ?_
      refine lv_iconst (v := 1) hx hb dX4_readNumbers_60 (by decide) ?_
      refine lv_iconst (v := 0) hx hb dX4_readNumbers_61 (by decide) ?_
      refine lv_iload_n hx hb dX4_readNumbers_62 rfl (lv_at hl 0 rfl) ?_
      obtain ⟨y8, f9, hq10, hf⟩ := bi2_out hf
      refine cw_vi (As := [.int 1, .int 0, .int x2_1]) (rest := []) ⟨hx, hb, hml, hown, hts⟩ xP_S hK hX0 hS hP (c_X4_readNumber hj l N 1 0 x2_1 f6 t y8 f9 hq10) (cwV 3 hts gX4_readNumbers_X4_readNumber rfl rfl rfl (by decide +kernel) ⟨Nat.le_trans (Nat.le_of_ble_eq_true rfl) hR.1, Nat.le_trans (Nat.le_of_ble_eq_true rfl) hR.2⟩) (va_recv hK hP (ci := 4) (q0 := 12) rfl rfl) rfl hl.1 rfl (Nat.le_of_ble_eq_true rfl) ⟨Nat.zero_le _, Nat.zero_le _⟩ dX4_readNumbers_63 (fun H locs hP hS => ?_)
      refine lv_if_eq (tgt := 99) hx hb dX4_readNumbers_66 (by decide) (fun c66 => ?_) (fun c66 => ?_)
      · have hf := itT hf c66
        refine lv_iconst (v := 0) hx hb dX4_readNumbers_99 (by decide) ?_
        obtain ⟨hz, hf⟩ := rz_out hf
        obtain ⟨rfl, rfl⟩ := Prod.mk.inj (Option.some.inj hf)
        exact kr H locs ls 100 dX4_readNumbers_100 hz hP hS
      · have hf := itF hf c66
        refine lv_aload_n hx hb dX4_readNumbers_69 rfl (lv_at hl 1 rfl) ?_
        refine va_get (D := D) (ci := 4) (v := .ref (ad 22)) (C := RX4) (T := TX4) (N := 7) hx hb hts hiX4 hown hK hP 12 rfl rfl 6 (by decide) lk31 (fun _ h9 => h9) rfl dX4_readNumbers_70 ?_
        refine lv_iconst (v := 1) hx hb dX4_readNumbers_73 (by decide) ?_
        obtain ⟨hin11, hf⟩ := gi_out hf
        refine va_iald hx hb hK hP 22 1 rfl rfl hin11 dX4_readNumbers_74 ?_
        refine lv_aload_n hx hb dX4_readNumbers_75 rfl (lv_at hl 1 rfl) ?_
        refine va_get (D := D) (ci := 4) (v := .ref (ad 22)) (C := RX4) (T := TX4) (N := 7) hx hb hts hiX4 hown hK hP 12 rfl rfl 6 (by decide) lk31 (fun _ h9 => h9) rfl dX4_readNumbers_76 ?_
        refine lv_iconst (v := 0) hx hb dX4_readNumbers_79 (by decide) ?_
        obtain ⟨hin12, hf⟩ := gi_out hf
        refine va_iald hx hb hK hP 22 1 rfl rfl hin12 dX4_readNumbers_80 ?_
        refine lv_icmp_eq (tgt := 99) hx hb dX4_readNumbers_81 (by decide) (fun c81 => ?_) (fun c81 => ?_)
        · have hf := itT hf c81
          refine lv_iconst (v := 0) hx hb dX4_readNumbers_99 (by decide) ?_
          obtain ⟨hz, hf⟩ := rz_out hf
          obtain ⟨rfl, rfl⟩ := Prod.mk.inj (Option.some.inj hf)
          exact kr H locs ls 100 dX4_readNumbers_100 hz hP hS
        · have hf := itF hf c81
          refine lv_aload_n hx hb dX4_readNumbers_84 rfl (lv_at hl 1 rfl) ?_
          refine lv_iconst (v := 2) hx hb dX4_readNumbers_85 (by decide) ?_
          refine lv_iconst (v := 0) hx hb dX4_readNumbers_86 (by decide) ?_
          refine lv_bipush (v := 9) hx hb dX4_readNumbers_87 (by decide) ?_
          obtain ⟨y13, f14, hq15, hf⟩ := bi2_out hf
          refine cw_vi (As := [.int 2, .int 0, .int 9]) (rest := []) ⟨hx, hb, hml, hown, hts⟩ xP_S hK hX0 hS hP (c_X4_readNumber hj l N 2 0 9 f9 t y13 f14 hq15) (cwV 3 hts gX4_readNumbers_X4_readNumber rfl rfl rfl (by decide +kernel) ⟨Nat.le_trans (Nat.le_of_ble_eq_true rfl) hR.1, Nat.le_trans (Nat.le_of_ble_eq_true rfl) hR.2⟩) (va_recv hK hP (ci := 4) (q0 := 12) rfl rfl) rfl hl.1 rfl (Nat.le_of_ble_eq_true rfl) ⟨Nat.zero_le _, Nat.zero_le _⟩ dX4_readNumbers_89 (fun H locs hP hS => ?_)
          refine lv_if_eq (tgt := 99) hx hb dX4_readNumbers_92 (by decide) (fun c92 => ?_) (fun c92 => ?_)
          · have hf := itT hf c92
            refine lv_iconst (v := 0) hx hb dX4_readNumbers_99 (by decide) ?_
            obtain ⟨hz, hf⟩ := rz_out hf
            obtain ⟨rfl, rfl⟩ := Prod.mk.inj (Option.some.inj hf)
            exact kr H locs ls 100 dX4_readNumbers_100 hz hP hS
          · have hf := itF hf c92
            refine lv_iconst (v := 1) hx hb dX4_readNumbers_95 (by decide) ?_
            refine lv_goto (tgt := 100) hx hb dX4_readNumbers_96 (by decide) ?_
            obtain ⟨hz, hf⟩ := rz_out hf
            obtain ⟨rfl, rfl⟩ := Prod.mk.inj (Option.some.inj hf)
            exact kr H locs ls 100 dX4_readNumbers_100 hz hP hS
  have hf := itF hf c11_1
  by_cases c11_2 : x1 = 6
  · have hf := itT hf c11_2
    refine lv_tableIn (tgt := 101) hx hb dX4_readNumbers_11 (by rw [c11_2]; decide) (by rw [c11_2]; decide) (by rw [c11_2]; rfl) (by decide) ?_
    refine lv_aload_n hx hb dX4_readNumbers_101 rfl (lv_at hl 1 rfl) ?_
    refine lv_iconst (v := 0) hx hb dX4_readNumbers_102 (by decide) ?_
    refine lv_iconst (v := 1) hx hb dX4_readNumbers_103 (by decide) ?_
    refine lv_iconst (v := 3) hx hb dX4_readNumbers_104 (by decide) ?_
    obtain ⟨y16, f17, hq18, hf⟩ := bi2_out hf
    refine cw_vi (As := [.int 0, .int 1, .int 3]) (rest := []) ⟨hx, hb, hml, hown, hts⟩ xP_S hK hX0 hS hP (c_X4_readNumber hj l N 0 1 3 f t y16 f17 hq18) (cwV 3 hts gX4_readNumbers_X4_readNumber rfl rfl rfl (by decide +kernel) ⟨Nat.le_trans (Nat.le_of_ble_eq_true rfl) hR.1, Nat.le_trans (Nat.le_of_ble_eq_true rfl) hR.2⟩) (va_recv hK hP (ci := 4) (q0 := 12) rfl rfl) rfl hl.1 rfl (Nat.le_of_ble_eq_true rfl) ⟨Nat.zero_le _, Nat.zero_le _⟩ dX4_readNumbers_105 (fun H locs hP hS => ?_)
    refine lv_if_eq (tgt := 125) hx hb dX4_readNumbers_108 (by decide) (fun c108 => ?_) (fun c108 => ?_)
    · have hf := itT hf c108
      refine lv_iconst (v := 0) hx hb dX4_readNumbers_125 (by decide) ?_
      obtain ⟨hz, hf⟩ := rz_out hf
      obtain ⟨rfl, rfl⟩ := Prod.mk.inj (Option.some.inj hf)
      exact kr H locs ls 126 dX4_readNumbers_126 hz hP hS
    · have hf := itF hf c108
      refine lv_aload_n hx hb dX4_readNumbers_111 rfl (lv_at hl 1 rfl) ?_
      refine lv_iconst (v := 1) hx hb dX4_readNumbers_112 (by decide) ?_
      refine lv_iconst (v := 1) hx hb dX4_readNumbers_113 (by decide) ?_
      refine lv_iconst (v := 2) hx hb dX4_readNumbers_114 (by decide) ?_
      obtain ⟨y19, f20, hq21, hf⟩ := bi2_out hf
      refine cw_vi (As := [.int 1, .int 1, .int 2]) (rest := []) ⟨hx, hb, hml, hown, hts⟩ xP_S hK hX0 hS hP (c_X4_readNumber hj l N 1 1 2 f17 t y19 f20 hq21) (cwV 3 hts gX4_readNumbers_X4_readNumber rfl rfl rfl (by decide +kernel) ⟨Nat.le_trans (Nat.le_of_ble_eq_true rfl) hR.1, Nat.le_trans (Nat.le_of_ble_eq_true rfl) hR.2⟩) (va_recv hK hP (ci := 4) (q0 := 12) rfl rfl) rfl hl.1 rfl (Nat.le_of_ble_eq_true rfl) ⟨Nat.zero_le _, Nat.zero_le _⟩ dX4_readNumbers_115 (fun H locs hP hS => ?_)
      refine lv_if_eq (tgt := 125) hx hb dX4_readNumbers_118 (by decide) (fun c118 => ?_) (fun c118 => ?_)
      · have hf := itT hf c118
        refine lv_iconst (v := 0) hx hb dX4_readNumbers_125 (by decide) ?_
        obtain ⟨hz, hf⟩ := rz_out hf
        obtain ⟨rfl, rfl⟩ := Prod.mk.inj (Option.some.inj hf)
        exact kr H locs ls 126 dX4_readNumbers_126 hz hP hS
      · have hf := itF hf c118
        refine lv_iconst (v := 1) hx hb dX4_readNumbers_121 (by decide) ?_
        refine lv_goto (tgt := 126) hx hb dX4_readNumbers_122 (by decide) ?_
        obtain ⟨hz, hf⟩ := rz_out hf
        obtain ⟨rfl, rfl⟩ := Prod.mk.inj (Option.some.inj hf)
        exact kr H locs ls 126 dX4_readNumbers_126 hz hP hS
  have hf := itF hf c11_2
  by_cases c11_3 : x1 = 7
  · have hf := itT hf c11_3
    refine lv_tableIn (tgt := 127) hx hb dX4_readNumbers_11 (by rw [c11_3]; decide) (by rw [c11_3]; decide) (by rw [c11_3]; rfl) (by decide) ?_
    refine lv_aload_n hx hb dX4_readNumbers_127 rfl (lv_at hl 1 rfl) ?_
    refine lv_iconst (v := 0) hx hb dX4_readNumbers_128 (by decide) ?_
    refine lv_iconst (v := 0) hx hb dX4_readNumbers_129 (by decide) ?_
    refine lv_aload_n hx hb dX4_readNumbers_130 rfl (lv_at hl 1 rfl) ?_
    refine va_get (D := D) (ci := 4) (v := .ref (ad 13)) (C := RX4) (T := TX4) (N := 7) hx hb hts hiX4 hown hK hP 12 rfl rfl 1 (by decide) lk12 (fun _ h9 => h9) rfl dX4_readNumbers_131 ?_
    refine va_getN (D := D) (ci := 2) (v := .int (f 13 2)) (C := RX2) (T := TX2) (N := 12) hx hb hts hiX2 hown hK hP 13 rfl rfl 2 (by decide) ln64 (fun _ h9 => h9) rfl dX4_readNumbers_134 ?_
    refine lv_iconst (v := 1) hx hb dX4_readNumbers_137 (by decide) ?_
    refine lv_isub hx hb dX4_readNumbers_138 ?_
    obtain ⟨y22, f23, hq24, hf⟩ := bi2_out hf
    refine cw_vi (As := [.int 0, .int 0, .int ((f 13 2) - 1)]) (rest := []) ⟨hx, hb, hml, hown, hts⟩ xP_S hK hX0 hS hP (c_X4_readNumber hj l N 0 0 ((f 13 2) - 1) f t y22 f23 hq24) (cwV 3 hts gX4_readNumbers_X4_readNumber rfl rfl rfl (by decide +kernel) ⟨Nat.le_trans (Nat.le_of_ble_eq_true rfl) hR.1, Nat.le_trans (Nat.le_of_ble_eq_true rfl) hR.2⟩) (va_recv hK hP (ci := 4) (q0 := 12) rfl rfl) rfl hl.1 rfl (Nat.le_of_ble_eq_true rfl) ⟨Nat.zero_le _, Nat.zero_le _⟩ dX4_readNumbers_139 (fun H locs hP hS => ?_)
    refine lv_if_eq (tgt := 184) hx hb dX4_readNumbers_142 (by decide) (fun c142 => ?_) (fun c142 => ?_)
    · have hf := itT hf c142
      refine lv_iconst (v := 0) hx hb dX4_readNumbers_184 (by decide) ?_
      obtain ⟨hz, hf⟩ := rz_out hf
      obtain ⟨rfl, rfl⟩ := Prod.mk.inj (Option.some.inj hf)
      exact kr H locs ls 185 dX4_readNumbers_185 hz hP hS
    · have hf := itF hf c142
      refine lv_aload_n hx hb dX4_readNumbers_145 rfl (lv_at hl 1 rfl) ?_
      refine lv_iconst (v := 1) hx hb dX4_readNumbers_146 (by decide) ?_
      refine lv_iconst (v := 0) hx hb dX4_readNumbers_147 (by decide) ?_
      refine lv_iload_n hx hb dX4_readNumbers_148 rfl (lv_at hl 0 rfl) ?_
      obtain ⟨y25, f26, hq27, hf⟩ := bi2_out hf
      refine cw_vi (As := [.int 1, .int 0, .int x2_1]) (rest := []) ⟨hx, hb, hml, hown, hts⟩ xP_S hK hX0 hS hP (c_X4_readNumber hj l N 1 0 x2_1 f23 t y25 f26 hq27) (cwV 3 hts gX4_readNumbers_X4_readNumber rfl rfl rfl (by decide +kernel) ⟨Nat.le_trans (Nat.le_of_ble_eq_true rfl) hR.1, Nat.le_trans (Nat.le_of_ble_eq_true rfl) hR.2⟩) (va_recv hK hP (ci := 4) (q0 := 12) rfl rfl) rfl hl.1 rfl (Nat.le_of_ble_eq_true rfl) ⟨Nat.zero_le _, Nat.zero_le _⟩ dX4_readNumbers_149 (fun H locs hP hS => ?_)
      refine lv_if_eq (tgt := 184) hx hb dX4_readNumbers_152 (by decide) (fun c152 => ?_) (fun c152 => ?_)
      · have hf := itT hf c152
        refine lv_iconst (v := 0) hx hb dX4_readNumbers_184 (by decide) ?_
        obtain ⟨hz, hf⟩ := rz_out hf
        obtain ⟨rfl, rfl⟩ := Prod.mk.inj (Option.some.inj hf)
        exact kr H locs ls 185 dX4_readNumbers_185 hz hP hS
      · have hf := itF hf c152
        refine lv_aload_n hx hb dX4_readNumbers_155 rfl (lv_at hl 1 rfl) ?_
        refine lv_iconst (v := 2) hx hb dX4_readNumbers_156 (by decide) ?_
        refine lv_iconst (v := 0) hx hb dX4_readNumbers_157 (by decide) ?_
        refine lv_iload_n hx hb dX4_readNumbers_158 rfl (lv_at hl 0 rfl) ?_
        obtain ⟨y28, f29, hq30, hf⟩ := bi2_out hf
        refine cw_vi (As := [.int 2, .int 0, .int x2_1]) (rest := []) ⟨hx, hb, hml, hown, hts⟩ xP_S hK hX0 hS hP (c_X4_readNumber hj l N 2 0 x2_1 f26 t y28 f29 hq30) (cwV 3 hts gX4_readNumbers_X4_readNumber rfl rfl rfl (by decide +kernel) ⟨Nat.le_trans (Nat.le_of_ble_eq_true rfl) hR.1, Nat.le_trans (Nat.le_of_ble_eq_true rfl) hR.2⟩) (va_recv hK hP (ci := 4) (q0 := 12) rfl rfl) rfl hl.1 rfl (Nat.le_of_ble_eq_true rfl) ⟨Nat.zero_le _, Nat.zero_le _⟩ dX4_readNumbers_159 (fun H locs hP hS => ?_)
        refine lv_if_eq (tgt := 184) hx hb dX4_readNumbers_162 (by decide) (fun c162 => ?_) (fun c162 => ?_)
        · have hf := itT hf c162
          refine lv_iconst (v := 0) hx hb dX4_readNumbers_184 (by decide) ?_
          obtain ⟨hz, hf⟩ := rz_out hf
          obtain ⟨rfl, rfl⟩ := Prod.mk.inj (Option.some.inj hf)
          exact kr H locs ls 185 dX4_readNumbers_185 hz hP hS
        · have hf := itF hf c162
          refine lv_aload_n hx hb dX4_readNumbers_165 rfl (lv_at hl 1 rfl) ?_
          refine va_get (D := D) (ci := 4) (v := .ref (ad 22)) (C := RX4) (T := TX4) (N := 7) hx hb hts hiX4 hown hK hP 12 rfl rfl 6 (by decide) lk31 (fun _ h9 => h9) rfl dX4_readNumbers_166 ?_
          refine lv_iconst (v := 2) hx hb dX4_readNumbers_169 (by decide) ?_
          obtain ⟨hin31, hf⟩ := gi_out hf
          refine va_iald hx hb hK hP 22 1 rfl rfl hin31 dX4_readNumbers_170 ?_
          refine lv_aload_n hx hb dX4_readNumbers_171 rfl (lv_at hl 1 rfl) ?_
          refine va_get (D := D) (ci := 4) (v := .ref (ad 22)) (C := RX4) (T := TX4) (N := 7) hx hb hts hiX4 hown hK hP 12 rfl rfl 6 (by decide) lk31 (fun _ h9 => h9) rfl dX4_readNumbers_172 ?_
          refine lv_iconst (v := 1) hx hb dX4_readNumbers_175 (by decide) ?_
          obtain ⟨hin32, hf⟩ := gi_out hf
          refine va_iald hx hb hK hP 22 1 rfl rfl hin32 dX4_readNumbers_176 ?_
          refine lv_icmp_eq (tgt := 184) hx hb dX4_readNumbers_177 (by decide) (fun c177 => ?_) (fun c177 => ?_)
          · have hf := itT hf c177
            refine lv_iconst (v := 0) hx hb dX4_readNumbers_184 (by decide) ?_
            obtain ⟨hz, hf⟩ := rz_out hf
            obtain ⟨rfl, rfl⟩ := Prod.mk.inj (Option.some.inj hf)
            exact kr H locs ls 185 dX4_readNumbers_185 hz hP hS
          · have hf := itF hf c177
            refine lv_iconst (v := 1) hx hb dX4_readNumbers_180 (by decide) ?_
            refine lv_goto (tgt := 185) hx hb dX4_readNumbers_181 (by decide) ?_
            obtain ⟨hz, hf⟩ := rz_out hf
            obtain ⟨rfl, rfl⟩ := Prod.mk.inj (Option.some.inj hf)
            exact kr H locs ls 185 dX4_readNumbers_185 hz hP hS
  have hf := itF hf c11_3
  refine lv_tableOut (tgt := 186) hx hb dX4_readNumbers_11 (by have h0 := lv_neT c11_0 (a := 4) rfl; have h1 := lv_neT c11_1 (a := 5) rfl; have h2 := lv_neT c11_2 (a := 6) rfl; have h3 := lv_neT c11_3 (a := 7) rfl; omega) (by decide) ?_
  refine lv_iconst (v := 0) hx hb dX4_readNumbers_186 (by decide) ?_
  obtain ⟨hz, hf⟩ := rz_out hf
  obtain ⟨rfl, rfl⟩ := Prod.mk.inj (Option.some.inj hf)
  exact kr H locs ls 187 dX4_readNumbers_187 hz hP hS
set_option maxHeartbeats 4000000 in
set_option maxRecDepth 100000 in
theorem c_X4_readNumbers (hj : jP ad) (l : Launch) (N : Nat) (x1 : Int32) (f : mM) (t : Int64) (r : Int32) (fR : mM) (hf : q_X4_readNumbers N x1 f = some (r, fR)) : Met l yX4_readNumbers wsX4_readNumbers ({ frames := 8, cells := 0, slots := 0, locals := 171 }) (va_Pc ([.ref (ad 12), .int x1]) (pre D cy (wP ad cy) (xP ad sk sv) f t)) (va_Qi (fun (r2 : Int32) (u : mM × Int64) => r2 = r ∧ u = (fR, t)) (atW D (wP ad cy)) (aP ad)) 0 0 (aP ad) := by
  refine Met.ofW (cc := cX4_readNumbers) (maxL := 3) (ret := (some .boolean)) (by decide) rfl ?_
  intro p e s m args below meth c s₁ B hml hv
  obtain ⟨rfl, hP, hK, hX0⟩ := hv
  have hl := lv_entry ([.ref (ad 12), .int x1]) (n := 3) (Nat.le_of_ble_eq_true rfl)
  rw [lg_entry_eq]
  generalize (lg_sl ([.ref (ad 12), .int x1]) ++ List.replicate (3 - (lg_sl ([.ref (ad 12), .int x1])).length) Slot.unset).toArray = ls at hl ⊢
  have hlocks := B.notSynchronized
  exact b_X4_readNumbers ⟨B.exec, B.bytes, B.returns, hml, findClass_of_methodNamed B.named, atoms_spec (ws := wsX4_readNumbers) B.pre, hlocks, hK, hX0⟩ hj ⟨Nat.le_refl _, Nat.le_refl _⟩ N x1 f t r fR hf (fun H locs ls pc hd hz hP hS => W.zret B.exec B.bytes B.returns hz (fun t2 ht hW => ⟨⟨r, (fR, t), rfl, ⟨rfl, rfl⟩, by show va_P D vwCl _ t2.heap; rw [ht]; exact hP⟩, hS.F ht⟩) hS.2.2 hd) s.heap [] ls hP va_S.rf hl
def q_X4_canBegin (x1 : Int32) (x2 : Int32) (f : mM) : Option (Int32) := if x1 = 4 then if x2 = 0 then rz 1 (some 1) else rz 0 (some 0) else if x1 = 5 then if 9 ≤ (f 13 1) then rz 0 (some 0) else rz 1 (some 1) else if x1 = 6 then if 4 ≤ (f 13 2) then rz 0 (some 0) else rz 1 (some 1) else if x1 = 7 then if 3 ≤ (f 13 3) then rz 0 (some 0) else rz 1 (some 1) else rz 0 (some 0)
set_option maxHeartbeats 4000000 in
set_option maxRecDepth 100000 in
theorem b_X4_canBegin (C0 : cX p s m args meth c cX4_canBegin 3 (some .boolean) RX4 wsX4_canBegin D cy (xP ad sk sv)) (hj : jP ad) (hR : 0 ≤ R.frames ∧ 0 ≤ R.locals) (x1 : Int32) (x2 : Int32) (f : mM) (t : Int64) (r : Int32) (hf : q_X4_canBegin x1 x2 f = some r) (kr : ∀ (H : Heap) (locs : List Loc) (ls : Array Slot) (pc : Nat), decode cX4_canBegin pc = .ok (.ireturn, 1) → narrow .boolean (.int r) = .int r → va_P D vwCl (wP ad cy f t) H → va_S (aP ad) s.heap H locs → W p l e R s m args below meth c H locs 0 0 Q (F0 m pc ls [.int r])) (H : Heap) (locs : List Loc) (ls : Array Slot) (hP : va_P D vwCl (wP ad cy f t) H) (hS : va_S (aP ad) s.heap H locs) (hl : lv_has ls 3 [(0, .ref (ad 12)), (1, .int x1), (2, .int x2)]) : W p l e R s m args below meth c H locs 0 0 Q (F0 m 0 ls []) := by
  obtain ⟨hx, hb, hr, hml, hown, hts, hlocks, hK, hX0⟩ := id C0
  have lk12 := hts (.fieldLink RX4 12 "PlankNine$Reader" "draft" "LPlankNine$Marsh;") (List.mem_of_getElem? (i := 1) rfl)
  have hiX4 : ∀ w ∈ u_ws RX4 TX4 7, w ∈ wsX4_canBegin := fun w h => List.mem_cons_of_mem _ (List.mem_append_left _ (List.mem_append_right _ h))
  have ln61 := nlF_9 (args := args) hX0
  have hiX2 : ∀ w ∈ u_ws RX2 TX2 12, w ∈ wsX4_canBegin := fun w h => List.mem_cons_of_mem _ (List.mem_append_right _ h)
  have ln64 := nlF_13 (args := args) hX0
  have ln67 := nlF_17 (args := args) hX0
  unfold q_X4_canBegin at hf
  refine lv_iload_n hx hb dX4_canBegin_0 rfl (lv_at hl 1 rfl) ?_
  by_cases c1_0 : x1 = 4
  · have hf := itT hf c1_0
    refine lv_tableIn (tgt := 32) hx hb dX4_canBegin_1 (by rw [c1_0]; decide) (by rw [c1_0]; decide) (by rw [c1_0]; rfl) (by decide) ?_
    refine lv_iload_n hx hb dX4_canBegin_32 rfl (lv_at hl 2 rfl) ?_
    refine lv_if_ne (tgt := 40) hx hb dX4_canBegin_33 (by decide) (fun c33 => ?_) (fun c33 => ?_)
    · have hf := itF hf c33
      refine lv_iconst (v := 0) hx hb dX4_canBegin_40 (by decide) ?_
      obtain ⟨hz, hf⟩ := rz_out hf
      obtain rfl := Option.some.inj hf
      exact kr H locs ls 41 dX4_canBegin_41 hz hP hS
    · have hf := itT hf c33
      refine lv_iconst (v := 1) hx hb dX4_canBegin_36 (by decide) ?_
      refine lv_goto (tgt := 41) hx hb dX4_canBegin_37 (by decide) ?_
      obtain ⟨hz, hf⟩ := rz_out hf
      obtain rfl := Option.some.inj hf
      exact kr H locs ls 41 dX4_canBegin_41 hz hP hS
  have hf := itF hf c1_0
  by_cases c1_1 : x1 = 5
  · have hf := itT hf c1_1
    refine lv_tableIn (tgt := 42) hx hb dX4_canBegin_1 (by rw [c1_1]; decide) (by rw [c1_1]; decide) (by rw [c1_1]; rfl) (by decide) ?_
    refine lv_aload_n hx hb dX4_canBegin_42 rfl (lv_at hl 0 rfl) ?_
    refine va_get (D := D) (ci := 4) (v := .ref (ad 13)) (C := RX4) (T := TX4) (N := 7) hx hb hts hiX4 hown hK hP 12 rfl rfl 1 (by decide) lk12 (fun _ h9 => h9) rfl dX4_canBegin_43 ?_
    refine va_getN (D := D) (ci := 2) (v := .int (f 13 1)) (C := RX2) (T := TX2) (N := 12) hx hb hts hiX2 hown hK hP 13 rfl rfl 1 (by decide) ln61 (fun _ h9 => h9) rfl dX4_canBegin_46 ?_
    refine lv_bipush (v := 9) hx hb dX4_canBegin_49 (by decide) ?_
    refine lv_icmp_ge (tgt := 58) hx hb dX4_canBegin_51 (by decide) (fun c51 => ?_) (fun c51 => ?_)
    · have hf := itT hf c51
      refine lv_iconst (v := 0) hx hb dX4_canBegin_58 (by decide) ?_
      obtain ⟨hz, hf⟩ := rz_out hf
      obtain rfl := Option.some.inj hf
      exact kr H locs ls 59 dX4_canBegin_59 hz hP hS
    · have hf := itF hf c51
      refine lv_iconst (v := 1) hx hb dX4_canBegin_54 (by decide) ?_
      refine lv_goto (tgt := 59) hx hb dX4_canBegin_55 (by decide) ?_
      obtain ⟨hz, hf⟩ := rz_out hf
      obtain rfl := Option.some.inj hf
      exact kr H locs ls 59 dX4_canBegin_59 hz hP hS
  have hf := itF hf c1_1
  by_cases c1_2 : x1 = 6
  · have hf := itT hf c1_2
    refine lv_tableIn (tgt := 60) hx hb dX4_canBegin_1 (by rw [c1_2]; decide) (by rw [c1_2]; decide) (by rw [c1_2]; rfl) (by decide) ?_
    refine lv_aload_n hx hb dX4_canBegin_60 rfl (lv_at hl 0 rfl) ?_
    refine va_get (D := D) (ci := 4) (v := .ref (ad 13)) (C := RX4) (T := TX4) (N := 7) hx hb hts hiX4 hown hK hP 12 rfl rfl 1 (by decide) lk12 (fun _ h9 => h9) rfl dX4_canBegin_61 ?_
    refine va_getN (D := D) (ci := 2) (v := .int (f 13 2)) (C := RX2) (T := TX2) (N := 12) hx hb hts hiX2 hown hK hP 13 rfl rfl 2 (by decide) ln64 (fun _ h9 => h9) rfl dX4_canBegin_64 ?_
    refine lv_iconst (v := 4) hx hb dX4_canBegin_67 (by decide) ?_
    refine lv_icmp_ge (tgt := 75) hx hb dX4_canBegin_68 (by decide) (fun c68 => ?_) (fun c68 => ?_)
    · have hf := itT hf c68
      refine lv_iconst (v := 0) hx hb dX4_canBegin_75 (by decide) ?_
      obtain ⟨hz, hf⟩ := rz_out hf
      obtain rfl := Option.some.inj hf
      exact kr H locs ls 76 dX4_canBegin_76 hz hP hS
    · have hf := itF hf c68
      refine lv_iconst (v := 1) hx hb dX4_canBegin_71 (by decide) ?_
      refine lv_goto (tgt := 76) hx hb dX4_canBegin_72 (by decide) ?_
      obtain ⟨hz, hf⟩ := rz_out hf
      obtain rfl := Option.some.inj hf
      exact kr H locs ls 76 dX4_canBegin_76 hz hP hS
  have hf := itF hf c1_2
  by_cases c1_3 : x1 = 7
  · have hf := itT hf c1_3
    refine lv_tableIn (tgt := 77) hx hb dX4_canBegin_1 (by rw [c1_3]; decide) (by rw [c1_3]; decide) (by rw [c1_3]; rfl) (by decide) ?_
    refine lv_aload_n hx hb dX4_canBegin_77 rfl (lv_at hl 0 rfl) ?_
    refine va_get (D := D) (ci := 4) (v := .ref (ad 13)) (C := RX4) (T := TX4) (N := 7) hx hb hts hiX4 hown hK hP 12 rfl rfl 1 (by decide) lk12 (fun _ h9 => h9) rfl dX4_canBegin_78 ?_
    refine va_getN (D := D) (ci := 2) (v := .int (f 13 3)) (C := RX2) (T := TX2) (N := 12) hx hb hts hiX2 hown hK hP 13 rfl rfl 3 (by decide) ln67 (fun _ h9 => h9) rfl dX4_canBegin_81 ?_
    refine lv_iconst (v := 3) hx hb dX4_canBegin_84 (by decide) ?_
    refine lv_icmp_ge (tgt := 92) hx hb dX4_canBegin_85 (by decide) (fun c85 => ?_) (fun c85 => ?_)
    · have hf := itT hf c85
      refine lv_iconst (v := 0) hx hb dX4_canBegin_92 (by decide) ?_
      obtain ⟨hz, hf⟩ := rz_out hf
      obtain rfl := Option.some.inj hf
      exact kr H locs ls 93 dX4_canBegin_93 hz hP hS
    · have hf := itF hf c85
      refine lv_iconst (v := 1) hx hb dX4_canBegin_88 (by decide) ?_
      refine lv_goto (tgt := 93) hx hb dX4_canBegin_89 (by decide) ?_
      obtain ⟨hz, hf⟩ := rz_out hf
      obtain rfl := Option.some.inj hf
      exact kr H locs ls 93 dX4_canBegin_93 hz hP hS
  have hf := itF hf c1_3
  refine lv_tableOut (tgt := 94) hx hb dX4_canBegin_1 (by have h0 := lv_neT c1_0 (a := 4) rfl; have h1 := lv_neT c1_1 (a := 5) rfl; have h2 := lv_neT c1_2 (a := 6) rfl; have h3 := lv_neT c1_3 (a := 7) rfl; omega) (by decide) ?_
  refine lv_iconst (v := 0) hx hb dX4_canBegin_94 (by decide) ?_
  obtain ⟨hz, hf⟩ := rz_out hf
  obtain rfl := Option.some.inj hf
  exact kr H locs ls 95 dX4_canBegin_95 hz hP hS
set_option maxHeartbeats 4000000 in
set_option maxRecDepth 100000 in
theorem c_X4_canBegin (hj : jP ad) (l : Launch) (x1 : Int32) (x2 : Int32) (f : mM) (t : Int64) (r : Int32) (hf : q_X4_canBegin x1 x2 f = some r) : Met l yX4_canBegin wsX4_canBegin ({ frames := 0, cells := 0, slots := 0, locals := 0 }) (va_Pc ([.ref (ad 12), .int x1, .int x2]) (pre D cy (wP ad cy) (xP ad sk sv) f t)) (va_Qi (fun (r2 : Int32) (u : mM × Int64) => r2 = r ∧ u = (f, t)) (atW D (wP ad cy)) (aP ad)) 0 0 (aP ad) := by
  refine Met.ofW (cc := cX4_canBegin) (maxL := 3) (ret := (some .boolean)) (by decide) rfl ?_
  intro p e s m args below meth c s₁ B hml hv
  obtain ⟨rfl, hP, hK, hX0⟩ := hv
  have hl := lv_entry ([.ref (ad 12), .int x1, .int x2]) (n := 3) (Nat.le_of_ble_eq_true rfl)
  rw [lg_entry_eq]
  generalize (lg_sl ([.ref (ad 12), .int x1, .int x2]) ++ List.replicate (3 - (lg_sl ([.ref (ad 12), .int x1, .int x2])).length) Slot.unset).toArray = ls at hl ⊢
  have hlocks := B.notSynchronized
  exact b_X4_canBegin ⟨B.exec, B.bytes, B.returns, hml, findClass_of_methodNamed B.named, atoms_spec (ws := wsX4_canBegin) B.pre, hlocks, hK, hX0⟩ hj ⟨Nat.le_refl _, Nat.le_refl _⟩ x1 x2 f t r hf (fun H locs ls pc hd hz hP hS => W.zret B.exec B.bytes B.returns hz (fun t2 ht hW => ⟨⟨r, (f, t), rfl, ⟨rfl, rfl⟩, by show va_P D vwCl _ t2.heap; rw [ht]; exact hP⟩, hS.F ht⟩) hS.2.2 hd) s.heap [] ls hP va_S.rf hl
def lp_X4_read_18 (N : Nat)  : Nat → Int32 → mM → Option (Nat × Int32 × mM)
  | 0, _, _ => none
  | n + 1, x1, f => if 300 ≤ x1 then some (1, x1, f) else if (f 12 2) = 1 then some (1, x1, f) else sq (f 12 2) (fun x2_6 => bi (q_X4_canBegin x2_6 x1 f) (fun y7 => if y7 = 0 then some (0, x1, f) else bi2 (q_X4_readNumbers N x2_6 f) (fun y9 f10 => if y9 = 0 then some (0, x1, f10) else bi2 (q_X4_readSemicolon N f10) (fun y12 f13 => if y12 = 0 then some (0, x1, f13) else bi (q_X4_addItem x2_6 f13) (fun f15 => sq (x1 + 1) (fun x1_17 => bi (q_X4_readToken N f15) (fun f18 => lp_X4_read_18 N n x1_17 f18)))))))
theorem lp_X4_read_18_s (N : Nat)  (n : Nat) (x1 : Int32) (f : mM) : lp_X4_read_18 N (n + 1) x1 f = (if 300 ≤ x1 then some (1, x1, f) else if (f 12 2) = 1 then some (1, x1, f) else sq (f 12 2) (fun x2_6 => bi (q_X4_canBegin x2_6 x1 f) (fun y7 => if y7 = 0 then some (0, x1, f) else bi2 (q_X4_readNumbers N x2_6 f) (fun y9 f10 => if y9 = 0 then some (0, x1, f10) else bi2 (q_X4_readSemicolon N f10) (fun y12 f13 => if y12 = 0 then some (0, x1, f13) else bi (q_X4_addItem x2_6 f13) (fun f15 => sq (x1 + 1) (fun x1_17 => bi (q_X4_readToken N f15) (fun f18 => lp_X4_read_18 N n x1_17 f18)))))))) := rfl
set_option maxHeartbeats 4000000 in
set_option maxRecDepth 100000 in
theorem lp_X4_read_18_w (C0 : cX p s m args meth c cX4_read 3 (some .int) RX4 wsX4_read D cy (xP ad sk sv)) (hj : jP ad) (hR : 9 ≤ R.frames ∧ 193 ≤ R.locals) (N : Nat)  (t : Int64) (g0 : Nat) (r1 : Int32) (fR : mM) (kx62 : g0 = 0 → ∀ (H : Heap) (locs : List Loc) (ls : Array Slot), va_P D vwCl (wP ad cy fR t) H → va_S (aP ad) s.heap H locs → lv_has ls 3 [(0, .ref (ad 12))] → W p l e R s m args below meth c H locs 0 0 Q (F0 m 62 ls [])) (kx85 : g0 = 1 → ∀ (H : Heap) (locs : List Loc) (ls : Array Slot), va_P D vwCl (wP ad cy fR t) H → va_S (aP ad) s.heap H locs → lv_has ls 3 [(1, .int r1)] → W p l e R s m args below meth c H locs 0 0 Q (F0 m 85 ls [])) : ∀ (n : Nat) (x1 : Int32) (f : mM), lp_X4_read_18 N n x1 f = some (g0, r1, fR) → ∀ (H : Heap) (locs : List Loc) (ls : Array Slot), va_P D vwCl (wP ad cy f t) H → va_S (aP ad) s.heap H locs → lv_has ls 3 [(0, .ref (ad 12)), (1, .int x1)] → W p l e R s m args below meth c H locs 0 0 Q (F0 m 18 ls []) := by
  obtain ⟨hx, hb, hr, hml, hown, hts, hlocks, hK, hX0⟩ := id C0
  have lk18 := hts (.fieldLink RX4 18 "PlankNine$Reader" "token" "I") (List.mem_of_getElem? (i := 3) rfl)
  have hiX4 : ∀ w ∈ u_ws RX4 TX4 7, w ∈ wsX4_read := fun w h => List.mem_cons_of_mem _ (List.mem_append_left _ (List.mem_append_left _ (List.mem_append_right _ h)))
  intro n
  induction n with
  | zero =>
    intro x1 f hf
    exact no_none hf
  | succ n ih =>
    intro x1 f hf H locs ls hP hS hl
    have hf := (lp_X4_read_18_s N n x1 f).symm.trans hf
    refine lv_iload_n hx hb dX4_read_18 rfl (lv_at hl 1 rfl) ?_
    refine lv_sipush (v := 300) hx hb dX4_read_19 (by decide) ?_
    refine lv_icmp_ge (tgt := 85) hx hb dX4_read_22 (by decide) (fun c22 => ?_) (fun c22 => ?_)
    · have hf := itT hf c22
      have hg_0 := Option.some.inj hf
      obtain ⟨rfl, hg_1⟩ := Prod.mk.inj hg_0
      obtain ⟨rfl, rfl⟩ := Prod.mk.inj hg_1
      exact kx85 rfl H locs ls hP hS (lv_sub hl [1] rfl)
    · have hf := itF hf c22
      refine lv_aload_n hx hb dX4_read_25 rfl (lv_at hl 0 rfl) ?_
      refine va_get (D := D) (ci := 4) (v := .int (f 12 2)) (C := RX4) (T := TX4) (N := 7) hx hb hts hiX4 hown hK hP 12 rfl rfl 2 (by decide) lk18 (fun _ h9 => h9) rfl dX4_read_26 ?_
      refine lv_iconst (v := 1) hx hb dX4_read_29 (by decide) ?_
      refine lv_icmp_eq (tgt := 85) hx hb dX4_read_30 (by decide) (fun c30 => ?_) (fun c30 => ?_)
      · have hf := itT hf c30
        have hg_0 := Option.some.inj hf
        obtain ⟨rfl, hg_1⟩ := Prod.mk.inj hg_0
        obtain ⟨rfl, rfl⟩ := Prod.mk.inj hg_1
        exact kx85 rfl H locs ls hP hS (lv_sub hl [1] rfl)
      · have hf := itF hf c30
        refine lv_aload_n hx hb dX4_read_33 rfl (lv_at hl 0 rfl) ?_
        refine va_get (D := D) (ci := 4) (v := .int (f 12 2)) (C := RX4) (T := TX4) (N := 7) hx hb hts hiX4 hown hK hP 12 rfl rfl 2 (by decide) lk18 (fun _ h9 => h9) rfl dX4_read_34 ?_
        obtain ⟨x2_6, ex2_6, hf⟩ := sq_out hf
        refine lv_nmi ex2_6 ?_
        refine lv_istore_n (lv' := [(2, .int x2_6), (0, .ref (ad 12)), (1, .int x1)]) hx hb dX4_read_37 rfl hl (by decide) rfl (fun ls hl => ?_)
        refine lv_aload_n hx hb dX4_read_38 rfl (lv_at hl 1 rfl) ?_
        refine lv_iload_n hx hb dX4_read_39 rfl (lv_at hl 0 rfl) ?_
        refine lv_iload_n hx hb dX4_read_40 rfl (lv_at hl 2 rfl) ?_
        obtain ⟨y7, hq8, hf⟩ := bi_out hf
        refine cw_vi (As := [.int x2_6, .int x1]) (rest := []) ⟨hx, hb, hml, hown, hts⟩ xP_S hK hX0 hS hP (c_X4_canBegin hj l x2_6 x1 f t y7 hq8) (cwV 2 hts gX4_read_X4_canBegin rfl rfl rfl (by decide +kernel) ⟨Nat.le_trans (Nat.le_of_ble_eq_true rfl) hR.1, Nat.le_trans (Nat.le_of_ble_eq_true rfl) hR.2⟩) (va_recv hK hP (ci := 4) (q0 := 12) rfl rfl) rfl hl.1 rfl (Nat.le_of_ble_eq_true rfl) ⟨Nat.zero_le _, Nat.zero_le _⟩ dX4_read_41 (fun H locs hP hS => ?_)
        refine lv_if_eq (tgt := 62) hx hb dX4_read_44 (by decide) (fun c44 => ?_) (fun c44 => ?_)
        · have hf := itT hf c44
          have hg_0 := Option.some.inj hf
          obtain ⟨rfl, hg_1⟩ := Prod.mk.inj hg_0
          obtain ⟨rfl, rfl⟩ := Prod.mk.inj hg_1
          exact kx62 rfl H locs ls hP hS (lv_sub hl [1] rfl)
        · have hf := itF hf c44
          refine lv_aload_n hx hb dX4_read_47 rfl (lv_at hl 1 rfl) ?_
          refine lv_iload_n hx hb dX4_read_48 rfl (lv_at hl 0 rfl) ?_
          obtain ⟨y9, f10, hq11, hf⟩ := bi2_out hf
          refine cw_vi (As := [.int x2_6]) (rest := []) ⟨hx, hb, hml, hown, hts⟩ xP_S hK hX0 hS hP (c_X4_readNumbers hj l N x2_6 f t y9 f10 hq11) (cwV 1 hts gX4_read_X4_readNumbers rfl rfl rfl (by decide +kernel) ⟨Nat.le_trans (Nat.le_of_ble_eq_true rfl) hR.1, Nat.le_trans (Nat.le_of_ble_eq_true rfl) hR.2⟩) (va_recv hK hP (ci := 4) (q0 := 12) rfl rfl) rfl hl.1 rfl (Nat.le_of_ble_eq_true rfl) ⟨Nat.zero_le _, Nat.zero_le _⟩ dX4_read_49 (fun H locs hP hS => ?_)
          refine lv_if_eq (tgt := 62) hx hb dX4_read_52 (by decide) (fun c52 => ?_) (fun c52 => ?_)
          · have hf := itT hf c52
            have hg_0 := Option.some.inj hf
            obtain ⟨rfl, hg_1⟩ := Prod.mk.inj hg_0
            obtain ⟨rfl, rfl⟩ := Prod.mk.inj hg_1
            exact kx62 rfl H locs ls hP hS (lv_sub hl [1] rfl)
          · have hf := itF hf c52
            refine lv_aload_n hx hb dX4_read_55 rfl (lv_at hl 1 rfl) ?_
            obtain ⟨y12, f13, hq14, hf⟩ := bi2_out hf
            refine cw_vi (As := []) (rest := []) ⟨hx, hb, hml, hown, hts⟩ xP_S hK hX0 hS hP (c_X4_readSemicolon hj l N f10 t y12 f13 hq14) (cwV 0 hts gX4_read_X4_readSemicolon rfl rfl rfl (by decide +kernel) ⟨Nat.le_trans (Nat.le_of_ble_eq_true rfl) hR.1, Nat.le_trans (Nat.le_of_ble_eq_true rfl) hR.2⟩) (va_recv hK hP (ci := 4) (q0 := 12) rfl rfl) rfl hl.1 rfl (Nat.le_of_ble_eq_true rfl) ⟨Nat.zero_le _, Nat.zero_le _⟩ dX4_read_56 (fun H locs hP hS => ?_)
            refine lv_if_ne (tgt := 70) hx hb dX4_read_59 (by decide) (fun c59 => ?_) (fun c59 => ?_)
            · have hf := itF hf c59
              refine lv_aload_n hx hb dX4_read_70 rfl (lv_at hl 1 rfl) ?_
              refine lv_iload_n hx hb dX4_read_71 rfl (lv_at hl 0 rfl) ?_
              obtain ⟨f15, hq16, hf⟩ := bi_out hf
              refine cw_vv (As := [.int x2_6]) (rest := []) ⟨hx, hb, hml, hown, hts⟩ xP_S hK hX0 hS hP (c_X4_addItem hj l x2_6 f13 t f15 hq16) (cwV 1 hts gX4_read_X4_addItem rfl rfl rfl (by decide +kernel) ⟨Nat.le_trans (Nat.le_of_ble_eq_true rfl) hR.1, Nat.le_trans (Nat.le_of_ble_eq_true rfl) hR.2⟩) (va_recv hK hP (ci := 4) (q0 := 12) rfl rfl) rfl hl.1 rfl (Nat.le_of_ble_eq_true rfl) ⟨Nat.zero_le _, Nat.zero_le _⟩ dX4_read_72 (fun H locs hP hS => ?_)
              obtain ⟨x1_17, ex1_17, hf⟩ := sq_out hf
              refine lv_iinc (v := x1_17) (lv' := [(1, .int x1_17), (2, .int x2_6), (0, .ref (ad 12))]) hx hb dX4_read_75 hl (k := 2) rfl (by rw [ex1_17]; rfl) (by decide) rfl (fun ls hl => ?_)
              refine lv_aload_n hx hb dX4_read_78 rfl (lv_at hl 2 rfl) ?_
              obtain ⟨f18, hq19, hf⟩ := bi_out hf
              refine cw_vv (As := []) (rest := []) ⟨hx, hb, hml, hown, hts⟩ xP_S hK hX0 hS hP (c_X4_readToken hj l N f15 t f18 hq19) (cwV 0 hts gX4_read_X4_readToken rfl rfl rfl (by decide +kernel) ⟨Nat.le_trans (Nat.le_of_ble_eq_true rfl) hR.1, Nat.le_trans (Nat.le_of_ble_eq_true rfl) hR.2⟩) (va_recv hK hP (ci := 4) (q0 := 12) rfl rfl) rfl hl.1 rfl (Nat.le_of_ble_eq_true rfl) ⟨Nat.zero_le _, Nat.zero_le _⟩ dX4_read_79 (fun H locs hP hS => ?_)
              refine lv_goto (tgt := 18) hx hb dX4_read_82 (by decide) ?_
              exact ih x1_17 f18 hf H locs ls hP hS (lv_sub hl [2, 0] rfl)
            · have hf := itT hf c59
              have hg_0 := Option.some.inj hf
              obtain ⟨rfl, hg_1⟩ := Prod.mk.inj hg_0
              obtain ⟨rfl, rfl⟩ := Prod.mk.inj hg_1
              exact kx62 rfl H locs ls hP hS (lv_sub hl [1] rfl)
def q_X4_read (N : Nat) (f : mM) : Option (Int32 × mM) := bi (q_X2_forgetAll f) (fun f1 => sq (st2 f1 12 4 0) (fun f3 => bi (q_X4_readToken N f3) (fun f4 => bi3 (lp_X4_read_18 N N 0 f4) (fun g20 y21 f22 => if g20 = 0 then some (((-10) - (f22 12 3)), f22) else if g20 = 1 then some (y21, f22) else none))))
set_option maxHeartbeats 4000000 in
set_option maxRecDepth 100000 in
theorem b_X4_read (C0 : cX p s m args meth c cX4_read 3 (some .int) RX4 wsX4_read D cy (xP ad sk sv)) (hj : jP ad) (hR : 9 ≤ R.frames ∧ 193 ≤ R.locals) (N : Nat)  (f : mM) (t : Int64) (r : Int32) (fR : mM) (hf : q_X4_read N f = some (r, fR)) (kr : ∀ (H : Heap) (locs : List Loc) (ls : Array Slot) (pc : Nat), decode cX4_read pc = .ok (.ireturn, 1) → va_P D vwCl (wP ad cy fR t) H → va_S (aP ad) s.heap H locs → W p l e R s m args below meth c H locs 0 0 Q (F0 m pc ls [.int r])) (H : Heap) (locs : List Loc) (ls : Array Slot) (hP : va_P D vwCl (wP ad cy f t) H) (hS : va_S (aP ad) s.heap H locs) (hl : lv_has ls 3 [(0, .ref (ad 12))]) : W p l e R s m args below meth c H locs 0 0 Q (F0 m 0 ls []) := by
  obtain ⟨hx, hb, hr, hml, hown, hts, hlocks, hK, hX0⟩ := id C0
  have lk12 := hts (.fieldLink RX4 12 "PlankNine$Reader" "draft" "LPlankNine$Marsh;") (List.mem_of_getElem? (i := 1) rfl)
  have hiX4 : ∀ w ∈ u_ws RX4 TX4 7, w ∈ wsX4_read := fun w h => List.mem_cons_of_mem _ (List.mem_append_left _ (List.mem_append_left _ (List.mem_append_right _ h)))
  have lk25 := hts (.fieldLink RX4 25 "PlankNine$Reader" "behind" "I") (List.mem_of_getElem? (i := 2) rfl)
  have lk22 := hts (.fieldLink RX4 22 "PlankNine$Reader" "start" "I") (List.mem_of_getElem? (i := 4) rfl)
  unfold q_X4_read at hf
  refine lv_aload_n hx hb dX4_read_0 rfl (lv_at hl 0 rfl) ?_
  refine va_get (D := D) (ci := 4) (v := .ref (ad 13)) (C := RX4) (T := TX4) (N := 7) hx hb hts hiX4 hown hK hP 12 rfl rfl 1 (by decide) lk12 (fun _ h9 => h9) rfl dX4_read_1 ?_
  obtain ⟨f1, hq2, hf⟩ := bi_out hf
  refine cw_vv (As := []) (rest := []) ⟨hx, hb, hml, hown, hts⟩ xP_S hK hX0 hS hP (c_X2_forgetAll hj l f t f1 hq2) (cwV 0 hts gX4_read_X2_forgetAll rfl rfl rfl (by decide +kernel) ⟨Nat.le_trans (Nat.le_of_ble_eq_true rfl) hR.1, Nat.le_trans (Nat.le_of_ble_eq_true rfl) hR.2⟩) (va_recv hK hP (ci := 2) (q0 := 13) rfl rfl) rfl hl.1 rfl (Nat.le_of_ble_eq_true rfl) ⟨Nat.zero_le _, Nat.zero_le _⟩ dX4_read_4 (fun H locs hP hS => ?_)
  refine lv_aload_n hx hb dX4_read_7 rfl (lv_at hl 0 rfl) ?_
  refine lv_iconst (v := 0) hx hb dX4_read_8 (by decide) ?_
  obtain ⟨f3, ef3, hf⟩ := sq_out hf
  refine va_put (D := D) (ci := 4) (v := .int 0) (ty := .int) (C := RX4) (T := TX4) (N := 7) hx hb hts hiX4 tyX4 tyX4_ok nmX4 hown hK hP (dP hj f1 t) hS 12 rfl rfl 4 (by decide) lk25 (fun _ h9 => h9) rfl (by decide +kernel) rfl rfl (Nat.le_of_ble_eq_true rfl) dX4_read_9 (fun H locs hP _ hS => ?_)
  have hP := sP_12_4 ef3 hP
  refine lv_iconst (v := 0) hx hb dX4_read_12 (by decide) ?_
  refine lv_istore_n (lv' := [(1, .int 0), (0, .ref (ad 12))]) hx hb dX4_read_13 rfl hl (by decide) rfl (fun ls hl => ?_)
  refine lv_aload_n hx hb dX4_read_14 rfl (lv_at hl 1 rfl) ?_
  obtain ⟨f4, hq5, hf⟩ := bi_out hf
  refine cw_vv (As := []) (rest := []) ⟨hx, hb, hml, hown, hts⟩ xP_S hK hX0 hS hP (c_X4_readToken hj l N f3 t f4 hq5) (cwV 0 hts gX4_read_X4_readToken rfl rfl rfl (by decide +kernel) ⟨Nat.le_trans (Nat.le_of_ble_eq_true rfl) hR.1, Nat.le_trans (Nat.le_of_ble_eq_true rfl) hR.2⟩) (va_recv hK hP (ci := 4) (q0 := 12) rfl rfl) rfl hl.1 rfl (Nat.le_of_ble_eq_true rfl) ⟨Nat.zero_le _, Nat.zero_le _⟩ dX4_read_15 (fun H locs hP hS => ?_)
  obtain ⟨g20, y21, f22, hlp23, hf⟩ := bi3_out hf
  refine lp_X4_read_18_w C0 hj hR N t g20 y21 f22 ?_ ?_ N 0 f4 hlp23 H locs ls hP hS (lv_sub hl [1, 0] rfl)
  · intro hg H locs ls hP hS hl
    have hf := itT hf hg
    refine lv_bipush (v := (-10)) hx hb dX4_read_62 (by decide) ?_
    refine lv_aload_n hx hb dX4_read_64 rfl (lv_at hl 0 rfl) ?_
    refine va_get (D := D) (ci := 4) (v := .int (f22 12 3)) (C := RX4) (T := TX4) (N := 7) hx hb hts hiX4 hown hK hP 12 rfl rfl 3 (by decide) lk22 (fun _ h9 => h9) rfl dX4_read_65 ?_
    refine lv_isub hx hb dX4_read_68 ?_
    obtain ⟨rfl, rfl⟩ := Prod.mk.inj (Option.some.inj hf)
    exact kr H locs ls 69 dX4_read_69 hP hS
  · intro hg H locs ls hP hS hl
    have hf := itF hf (by rw [hg]; decide)
    have hf := itT hf hg
    refine lv_iload_n hx hb dX4_read_85 rfl (lv_at hl 0 rfl) ?_
    obtain ⟨rfl, rfl⟩ := Prod.mk.inj (Option.some.inj hf)
    exact kr H locs ls 86 dX4_read_86 hP hS
set_option maxHeartbeats 4000000 in
set_option maxRecDepth 100000 in
theorem c_X4_read (hj : jP ad) (l : Launch) (N : Nat)  (f : mM) (t : Int64) (r : Int32) (fR : mM) (hf : q_X4_read N f = some (r, fR)) : Met l yX4_read wsX4_read ({ frames := 9, cells := 0, slots := 0, locals := 193 }) (va_Pc ([.ref (ad 12)]) (pre D cy (wP ad cy) (xP ad sk sv) f t)) (va_Qi (fun (r2 : Int32) (u : mM × Int64) => r2 = r ∧ u = (fR, t)) (atW D (wP ad cy)) (aP ad)) 0 0 (aP ad) := by
  refine Met.ofW (cc := cX4_read) (maxL := 3) (ret := (some .int)) (by decide) rfl ?_
  intro p e s m args below meth c s₁ B hml hv
  obtain ⟨rfl, hP, hK, hX0⟩ := hv
  have hl := lv_entry ([.ref (ad 12)]) (n := 3) (Nat.le_of_ble_eq_true rfl)
  rw [lg_entry_eq]
  generalize (lg_sl ([.ref (ad 12)]) ++ List.replicate (3 - (lg_sl ([.ref (ad 12)])).length) Slot.unset).toArray = ls at hl ⊢
  have hlocks := B.notSynchronized
  exact b_X4_read ⟨B.exec, B.bytes, B.returns, hml, findClass_of_methodNamed B.named, atoms_spec (ws := wsX4_read) B.pre, hlocks, hK, hX0⟩ hj ⟨Nat.le_refl _, Nat.le_refl _⟩ N  f t r fR hf (fun H locs ls pc hd hP hS => W.iret B.exec B.bytes B.returns (fun t2 ht hW => ⟨⟨r, (fR, t), rfl, ⟨rfl, rfl⟩, by show va_P D vwCl _ t2.heap; rw [ht]; exact hP⟩, hS.F ht⟩) hS.2.2 hd) s.heap [] ls hP va_S.rf hl
