variable {p : Program} {l : Launch} {e : Env} {R : Room} {s : State} {m : MethodId} {args : Array Value} {below : List Frame} {meth : Method} {c : Code} {Q : State → Prop} {D : va_G} {cy : Nat → ClassId} {ad sk sv : Nat → Nat}
def q_X9_type (N : Nat) (x1 : Int64) (x3 : Int32) (f : mM) : Option (Int32 × mM) := bi (q_X9_isWithin x3 1 8) (fun y1 => if y1 = 0 then some ((-1), f) else bi (q_X7_hasRoomFor x3 f) (fun y3 => if y3 = 0 then some ((-3), f) else bi (q_X7_add N x1 x3 f) (fun f5 => some ((f5 1 1), f5))))
set_option maxHeartbeats 4000000 in
set_option maxRecDepth 100000 in
theorem b_X9_type (C0 : cX p s m args meth c cX9_type 4 (some .int) RX9 wsX9_type D cy (xP ad sk sv)) (hj : jP ad) (hR : 1 ≤ R.frames ∧ 24 ≤ R.locals) (N : Nat) (x1 : Int64) (x3 : Int32) (f : mM) (t : Int64) (r : Int32) (fR : mM) (hf : q_X9_type N x1 x3 f = some (r, fR)) (kr : ∀ (H : Heap) (locs : List Loc) (ls : Array Slot) (pc : Nat), decode cX9_type pc = .ok (.ireturn, 1) → va_P D vwCl (wP ad cy fR t) H → va_S (aP ad) s.heap H locs → W p l e R s m args below meth c H locs 0 0 Q (F0 m pc ls [.int r])) (H : Heap) (locs : List Loc) (ls : Array Slot) (hP : va_P D vwCl (wP ad cy f t) H) (hS : va_S (aP ad) s.heap H locs) (hl : lv_has ls 4 [(0, .ref (ad 0)), (1, .long x1), (3, .int x3)]) : W p l e R s m args below meth c H locs 0 0 Q (F0 m 0 ls []) := by
  obtain ⟨hx, hb, hr, hml, hown, hts, hlocks, hK, hX0⟩ := id C0
  have lk12 := hts (.fieldLink RX9 12 "PlankNine" "text" "LPlankNine$Text;") (List.mem_of_getElem? (i := 1) rfl)
  have hiX9 : ∀ w ∈ u_ws RX9 TX9 11, w ∈ wsX9_type := fun w h => List.mem_cons_of_mem _ (List.mem_append_left _ (List.mem_append_right _ h))
  have ln96 := nlF_0 (args := args) hX0
  have hiX7 : ∀ w ∈ u_ws RX7 TX7 2, w ∈ wsX9_type := fun w h => List.mem_cons_of_mem _ (List.mem_append_right _ h)
  unfold q_X9_type at hf
  refine lv_iload_n hx hb dX9_type_0 rfl (lv_at hl 2 rfl) ?_
  refine lv_iconst (v := 1) hx hb dX9_type_1 (by decide) ?_
  refine lv_bipush (v := 8) hx hb dX9_type_2 (by decide) ?_
  obtain ⟨y1, hq2, hf⟩ := bi_out hf
  refine cw_si (As := [.int x3, .int 1, .int 8]) (rest := []) ⟨hx, hb, hml, hown, hts⟩ xP_S hK hX0 hS hP (c_X9_isWithin hj l x3 1 8 f t y1 hq2) (va_cwS 3 hts gX9_type_X9_isWithin rfl rfl rfl (by decide +kernel) ⟨Nat.le_trans (Nat.le_of_ble_eq_true rfl) hR.1, Nat.le_trans (Nat.le_of_ble_eq_true rfl) hR.2⟩) rfl hl.1 rfl (Nat.le_of_ble_eq_true rfl) ⟨Nat.zero_le _, Nat.zero_le _⟩ dX9_type_4 (fun H locs hP hS => ?_)
  refine lv_if_ne (tgt := 12) hx hb dX9_type_7 (by decide) (fun c7 => ?_) (fun c7 => ?_)
  · have hf := itF hf c7
    refine lv_aload_n hx hb dX9_type_12 rfl (lv_at hl 0 rfl) ?_
    refine va_get (D := D) (ci := 9) (v := .ref (ad 1)) (C := RX9) (T := TX9) (N := 11) hx hb hts hiX9 hown hK hP 0 rfl rfl 0 (by decide) lk12 (fun _ h9 => h9) rfl dX9_type_13 ?_
    refine lv_iload_n hx hb dX9_type_16 rfl (lv_at hl 2 rfl) ?_
    obtain ⟨y3, hq4, hf⟩ := bi_out hf
    refine cw_vi (As := [.int x3]) (rest := []) ⟨hx, hb, hml, hown, hts⟩ xP_S hK hX0 hS hP (c_X7_hasRoomFor hj l x3 f t y3 hq4) (cwV 1 hts gX9_type_X7_hasRoomFor rfl rfl rfl (by decide +kernel) ⟨Nat.le_trans (Nat.le_of_ble_eq_true rfl) hR.1, Nat.le_trans (Nat.le_of_ble_eq_true rfl) hR.2⟩) (va_recv hK hP (ci := 7) (q0 := 1) rfl rfl) rfl hl.1 rfl (Nat.le_of_ble_eq_true rfl) ⟨Nat.zero_le _, Nat.zero_le _⟩ dX9_type_17 (fun H locs hP hS => ?_)
    refine lv_if_ne (tgt := 26) hx hb dX9_type_20 (by decide) (fun c20 => ?_) (fun c20 => ?_)
    · have hf := itF hf c20
      refine lv_aload_n hx hb dX9_type_26 rfl (lv_at hl 0 rfl) ?_
      refine va_get (D := D) (ci := 9) (v := .ref (ad 1)) (C := RX9) (T := TX9) (N := 11) hx hb hts hiX9 hown hK hP 0 rfl rfl 0 (by decide) lk12 (fun _ h9 => h9) rfl dX9_type_27 ?_
      refine lv_lload_n hx hb dX9_type_30 rfl (lv_at hl 1 rfl) ?_
      refine lv_iload_n hx hb dX9_type_31 rfl (lv_at hl 2 rfl) ?_
      obtain ⟨f5, hq6, hf⟩ := bi_out hf
      refine cw_vv (As := [.long x1, .int x3]) (rest := []) ⟨hx, hb, hml, hown, hts⟩ xP_S hK hX0 hS hP (c_X7_add hj l N x1 x3 f t f5 hq6) (cwV 2 hts gX9_type_X7_add rfl rfl rfl (by decide +kernel) ⟨Nat.le_trans (Nat.le_of_ble_eq_true rfl) hR.1, Nat.le_trans (Nat.le_of_ble_eq_true rfl) hR.2⟩) (va_recv hK hP (ci := 7) (q0 := 1) rfl rfl) rfl hl.1 rfl (Nat.le_of_ble_eq_true rfl) ⟨Nat.zero_le _, Nat.zero_le _⟩ dX9_type_32 (fun H locs hP hS => ?_)
      refine lv_aload_n hx hb dX9_type_35 rfl (lv_at hl 0 rfl) ?_
      refine va_get (D := D) (ci := 9) (v := .ref (ad 1)) (C := RX9) (T := TX9) (N := 11) hx hb hts hiX9 hown hK hP 0 rfl rfl 0 (by decide) lk12 (fun _ h9 => h9) rfl dX9_type_36 ?_
      refine va_getN (D := D) (ci := 7) (v := .int (f5 1 1)) (C := RX7) (T := TX7) (N := 2) hx hb hts hiX7 hown hK hP 1 rfl rfl 1 (by decide) ln96 (fun _ h9 => h9) rfl dX9_type_39 ?_
      obtain ⟨rfl, rfl⟩ := Prod.mk.inj (Option.some.inj hf)
      exact kr H locs ls 42 dX9_type_42 hP hS
    · have hf := itT hf c20
      refine lv_bipush (v := (-3)) hx hb dX9_type_23 (by decide) ?_
      obtain ⟨rfl, rfl⟩ := Prod.mk.inj (Option.some.inj hf)
      exact kr H locs ls 25 dX9_type_25 hP hS
  · have hf := itT hf c7
    refine lv_iconst (v := (-1)) hx hb dX9_type_10 (by decide) ?_
    obtain ⟨rfl, rfl⟩ := Prod.mk.inj (Option.some.inj hf)
    exact kr H locs ls 11 dX9_type_11 hP hS
set_option maxHeartbeats 4000000 in
set_option maxRecDepth 100000 in
theorem c_X9_type (hj : jP ad) (l : Launch) (N : Nat) (x1 : Int64) (x3 : Int32) (f : mM) (t : Int64) (r : Int32) (fR : mM) (hf : q_X9_type N x1 x3 f = some (r, fR)) : Met l yX9_type wsX9_type ({ frames := 1, cells := 0, slots := 0, locals := 24 }) (va_Pc ([.ref (ad 0), .long x1, .int x3]) (pre D cy (wP ad cy) (xP ad sk sv) f t)) (va_Qi (fun (r2 : Int32) (u : mM × Int64) => r2 = r ∧ u = (fR, t)) (atW D (wP ad cy)) (aP ad)) 0 0 (aP ad) := by
  refine Met.ofW (cc := cX9_type) (maxL := 4) (ret := (some .int)) (by decide) rfl ?_
  intro p e s m args below meth c s₁ B hml hv
  obtain ⟨rfl, hP, hK, hX0⟩ := hv
  have hl := lv_entry ([.ref (ad 0), .long x1, .int x3]) (n := 4) (Nat.le_of_ble_eq_true rfl)
  rw [lg_entry_eq]
  generalize (lg_sl ([.ref (ad 0), .long x1, .int x3]) ++ List.replicate (4 - (lg_sl ([.ref (ad 0), .long x1, .int x3])).length) Slot.unset).toArray = ls at hl ⊢
  have hlocks := B.notSynchronized
  exact b_X9_type ⟨B.exec, B.bytes, B.returns, hml, findClass_of_methodNamed B.named, atoms_spec (ws := wsX9_type) B.pre, hlocks, hK, hX0⟩ hj ⟨Nat.le_refl _, Nat.le_refl _⟩ N x1 x3 f t r fR hf (fun H locs ls pc hd hP hS => W.iret B.exec B.bytes B.returns (fun t2 ht hW => ⟨⟨r, (fR, t), rfl, ⟨rfl, rfl⟩, by show va_P D vwCl _ t2.heap; rw [ht]; exact hP⟩, hS.F ht⟩) hS.2.2 hd) s.heap [] ls hP va_S.rf hl
def q_X9_clear (f : mM) : Option (Int32 × mM) := sq (f 1 1) (fun x1_1 => sq (st2 f 1 1 0) (fun f2 => some (x1_1, f2)))
set_option maxHeartbeats 4000000 in
set_option maxRecDepth 100000 in
theorem b_X9_clear (C0 : cX p s m args meth c cX9_clear 2 (some .int) RX9 wsX9_clear D cy (xP ad sk sv)) (hj : jP ad) (hR : 0 ≤ R.frames ∧ 0 ≤ R.locals)  (f : mM) (t : Int64) (r : Int32) (fR : mM) (hf : q_X9_clear f = some (r, fR)) (kr : ∀ (H : Heap) (locs : List Loc) (ls : Array Slot) (pc : Nat), decode cX9_clear pc = .ok (.ireturn, 1) → va_P D vwCl (wP ad cy fR t) H → va_S (aP ad) s.heap H locs → W p l e R s m args below meth c H locs 0 0 Q (F0 m pc ls [.int r])) (H : Heap) (locs : List Loc) (ls : Array Slot) (hP : va_P D vwCl (wP ad cy f t) H) (hS : va_S (aP ad) s.heap H locs) (hl : lv_has ls 2 [(0, .ref (ad 0))]) : W p l e R s m args below meth c H locs 0 0 Q (F0 m 0 ls []) := by
  obtain ⟨hx, hb, hr, hml, hown, hts, hlocks, hK, hX0⟩ := id C0
  have lk12 := hts (.fieldLink RX9 12 "PlankNine" "text" "LPlankNine$Text;") (List.mem_of_getElem? (i := 1) rfl)
  have hiX9 : ∀ w ∈ u_ws RX9 TX9 11, w ∈ wsX9_clear := fun w h => List.mem_cons_of_mem _ (List.mem_append_left _ (List.mem_append_right _ h))
  have ln96 := nlF_0 (args := args) hX0
  have hiX7 : ∀ w ∈ u_ws RX7 TX7 2, w ∈ wsX9_clear := fun w h => List.mem_cons_of_mem _ (List.mem_append_right _ h)
  unfold q_X9_clear at hf
  refine lv_aload_n hx hb dX9_clear_0 rfl (lv_at hl 0 rfl) ?_
  refine va_get (D := D) (ci := 9) (v := .ref (ad 1)) (C := RX9) (T := TX9) (N := 11) hx hb hts hiX9 hown hK hP 0 rfl rfl 0 (by decide) lk12 (fun _ h9 => h9) rfl dX9_clear_1 ?_
  refine va_getN (D := D) (ci := 7) (v := .int (f 1 1)) (C := RX7) (T := TX7) (N := 2) hx hb hts hiX7 hown hK hP 1 rfl rfl 1 (by decide) ln96 (fun _ h9 => h9) rfl dX9_clear_4 ?_
  obtain ⟨x1_1, ex1_1, hf⟩ := sq_out hf
  refine lv_nmi ex1_1 ?_
  refine lv_istore_n (lv' := [(1, .int x1_1), (0, .ref (ad 0))]) hx hb dX9_clear_7 rfl hl (by decide) rfl (fun ls hl => ?_)
  refine lv_aload_n hx hb dX9_clear_8 rfl (lv_at hl 1 rfl) ?_
  refine va_get (D := D) (ci := 9) (v := .ref (ad 1)) (C := RX9) (T := TX9) (N := 11) hx hb hts hiX9 hown hK hP 0 rfl rfl 0 (by decide) lk12 (fun _ h9 => h9) rfl dX9_clear_9 ?_
  refine lv_iconst (v := 0) hx hb dX9_clear_12 (by decide) ?_
  obtain ⟨f2, ef2, hf⟩ := sq_out hf
  refine va_putN (D := D) (ci := 7) (v := .int 0) (ty := .int) (C := RX7) (T := TX7) (N := 2) hx hb hts hiX7 tyX7 tyX7_ok nmX7 hown hK hP (dP hj f t) hS 1 rfl rfl 1 (by decide) ln96 (fun _ h9 => h9) rfl (by decide +kernel) rfl rfl (Nat.le_of_ble_eq_true rfl) dX9_clear_13 (fun H locs hP _ hS => ?_)
  have hP := sP_1_1 ef2 hP
  refine lv_iload_n hx hb dX9_clear_16 rfl (lv_at hl 0 rfl) ?_
  obtain ⟨rfl, rfl⟩ := Prod.mk.inj (Option.some.inj hf)
  exact kr H locs ls 17 dX9_clear_17 hP hS
set_option maxHeartbeats 4000000 in
set_option maxRecDepth 100000 in
theorem c_X9_clear (hj : jP ad) (l : Launch)  (f : mM) (t : Int64) (r : Int32) (fR : mM) (hf : q_X9_clear f = some (r, fR)) : Met l yX9_clear wsX9_clear ({ frames := 0, cells := 0, slots := 0, locals := 0 }) (va_Pc ([.ref (ad 0)]) (pre D cy (wP ad cy) (xP ad sk sv) f t)) (va_Qi (fun (r2 : Int32) (u : mM × Int64) => r2 = r ∧ u = (fR, t)) (atW D (wP ad cy)) (aP ad)) 0 0 (aP ad) := by
  refine Met.ofW (cc := cX9_clear) (maxL := 2) (ret := (some .int)) (by decide) rfl ?_
  intro p e s m args below meth c s₁ B hml hv
  obtain ⟨rfl, hP, hK, hX0⟩ := hv
  have hl := lv_entry ([.ref (ad 0)]) (n := 2) (Nat.le_of_ble_eq_true rfl)
  rw [lg_entry_eq]
  generalize (lg_sl ([.ref (ad 0)]) ++ List.replicate (2 - (lg_sl ([.ref (ad 0)])).length) Slot.unset).toArray = ls at hl ⊢
  have hlocks := B.notSynchronized
  exact b_X9_clear ⟨B.exec, B.bytes, B.returns, hml, findClass_of_methodNamed B.named, atoms_spec (ws := wsX9_clear) B.pre, hlocks, hK, hX0⟩ hj ⟨Nat.le_refl _, Nat.le_refl _⟩  f t r fR hf (fun H locs ls pc hd hP hS => W.iret B.exec B.bytes B.returns (fun t2 ht hW => ⟨⟨r, (fR, t), rfl, ⟨rfl, rfl⟩, by show va_P D vwCl _ t2.heap; rw [ht]; exact hP⟩, hS.F ht⟩) hS.2.2 hd) s.heap [] ls hP va_S.rf hl
def q_X9_plank (x1 : Int32) (x2 : Int32) (f : mM) : Option (Int32) := bi (q_X2_isPlank x1 f) (fun y1 => if y1 = 0 then some (-1) else if x2 = 0 then gi x1 9 (some (f 4 (Int32.toNatClampNeg x1))) else if x2 = 1 then gi x1 9 (some (f 5 (Int32.toNatClampNeg x1))) else if x2 = 2 then gi x1 9 (some (f 24 (Int32.toNatClampNeg x1))) else some (-1))
set_option maxHeartbeats 4000000 in
set_option maxRecDepth 100000 in
theorem b_X9_plank (C0 : cX p s m args meth c cX9_plank 3 (some .int) RX9 wsX9_plank D cy (xP ad sk sv)) (hj : jP ad) (hR : 1 ≤ R.frames ∧ 21 ≤ R.locals) (x1 : Int32) (x2 : Int32) (f : mM) (t : Int64) (r : Int32) (hf : q_X9_plank x1 x2 f = some r) (kr : ∀ (H : Heap) (locs : List Loc) (ls : Array Slot) (pc : Nat), decode cX9_plank pc = .ok (.ireturn, 1) → va_P D vwCl (wP ad cy f t) H → va_S (aP ad) s.heap H locs → W p l e R s m args below meth c H locs 0 0 Q (F0 m pc ls [.int r])) (H : Heap) (locs : List Loc) (ls : Array Slot) (hP : va_P D vwCl (wP ad cy f t) H) (hS : va_S (aP ad) s.heap H locs) (hl : lv_has ls 3 [(0, .ref (ad 0)), (1, .int x1), (2, .int x2)]) : W p l e R s m args below meth c H locs 0 0 Q (F0 m 0 ls []) := by
  obtain ⟨hx, hb, hr, hml, hown, hts, hlocks, hK, hX0⟩ := id C0
  have lk19 := hts (.fieldLink RX9 19 "PlankNine" "told" "LPlankNine$Marsh;") (List.mem_of_getElem? (i := 1) rfl)
  have hiX9 : ∀ w ∈ u_ws RX9 TX9 11, w ∈ wsX9_plank := fun w h => List.mem_cons_of_mem _ (List.mem_append_left _ (List.mem_append_left _ (List.mem_append_right _ h)))
  have ln120 := nlF_21 (args := args) hX0
  have hiX2 : ∀ w ∈ u_ws RX2 TX2 12, w ∈ wsX9_plank := fun w h => List.mem_cons_of_mem _ (List.mem_append_left _ (List.mem_append_right _ h))
  have ln124 := nlF_23 (args := args) hX0
  have lk35 := hts (.fieldLink RX9 35 "PlankNine" "now" "LPlankNine$Now;") (List.mem_of_getElem? (i := 2) rfl)
  have ln127 := nlF_43 (args := args) hX0
  have hiX3 : ∀ w ∈ u_ws RX3 TX3 4, w ∈ wsX9_plank := fun w h => List.mem_cons_of_mem _ (List.mem_append_right _ h)
  unfold q_X9_plank at hf
  refine lv_aload_n hx hb dX9_plank_0 rfl (lv_at hl 0 rfl) ?_
  refine va_get (D := D) (ci := 9) (v := .ref (ad 3)) (C := RX9) (T := TX9) (N := 11) hx hb hts hiX9 hown hK hP 0 rfl rfl 1 (by decide) lk19 (fun _ h9 => h9) rfl dX9_plank_1 ?_
  refine lv_iload_n hx hb dX9_plank_4 rfl (lv_at hl 1 rfl) ?_
  obtain ⟨y1, hq2, hf⟩ := bi_out hf
  refine cw_vi (As := [.int x1]) (rest := []) ⟨hx, hb, hml, hown, hts⟩ xP_S hK hX0 hS hP (c_X2_isPlank hj l x1 f t y1 hq2) (cwV 1 hts gX9_plank_X2_isPlank rfl rfl rfl (by decide +kernel) ⟨Nat.le_trans (Nat.le_of_ble_eq_true rfl) hR.1, Nat.le_trans (Nat.le_of_ble_eq_true rfl) hR.2⟩) (va_recv hK hP (ci := 2) (q0 := 3) rfl rfl) rfl hl.1 rfl (Nat.le_of_ble_eq_true rfl) ⟨Nat.zero_le _, Nat.zero_le _⟩ dX9_plank_5 (fun H locs hP hS => ?_)
  refine lv_if_ne (tgt := 13) hx hb dX9_plank_8 (by decide) (fun c8 => ?_) (fun c8 => ?_)
  · have hf := itF hf c8
    refine lv_iload_n hx hb dX9_plank_13 rfl (lv_at hl 2 rfl) ?_
    by_cases c14_0 : x2 = 0
    · have hf := itT hf c14_0
      refine lv_tableIn (tgt := 40) hx hb dX9_plank_14 (by rw [c14_0]; decide) (by rw [c14_0]; decide) (by rw [c14_0]; rfl) (by decide) ?_
      refine lv_aload_n hx hb dX9_plank_40 rfl (lv_at hl 0 rfl) ?_
      refine va_get (D := D) (ci := 9) (v := .ref (ad 3)) (C := RX9) (T := TX9) (N := 11) hx hb hts hiX9 hown hK hP 0 rfl rfl 1 (by decide) lk19 (fun _ h9 => h9) rfl dX9_plank_41 ?_
      refine va_getN (D := D) (ci := 2) (v := .ref (ad 4)) (C := RX2) (T := TX2) (N := 12) hx hb hts hiX2 hown hK hP 3 rfl rfl 4 (by decide) ln120 (fun _ h9 => h9) rfl dX9_plank_44 ?_
      refine lv_iload_n hx hb dX9_plank_47 rfl (lv_at hl 1 rfl) ?_
      obtain ⟨hin3, hf⟩ := gi_out hf
      refine va_iald hx hb hK hP 4 1 rfl rfl hin3 dX9_plank_48 ?_
      obtain rfl := Option.some.inj hf
      exact kr H locs ls 49 dX9_plank_49 hP hS
    have hf := itF hf c14_0
    by_cases c14_1 : x2 = 1
    · have hf := itT hf c14_1
      refine lv_tableIn (tgt := 50) hx hb dX9_plank_14 (by rw [c14_1]; decide) (by rw [c14_1]; decide) (by rw [c14_1]; rfl) (by decide) ?_
      refine lv_aload_n hx hb dX9_plank_50 rfl (lv_at hl 0 rfl) ?_
      refine va_get (D := D) (ci := 9) (v := .ref (ad 3)) (C := RX9) (T := TX9) (N := 11) hx hb hts hiX9 hown hK hP 0 rfl rfl 1 (by decide) lk19 (fun _ h9 => h9) rfl dX9_plank_51 ?_
      refine va_getN (D := D) (ci := 2) (v := .ref (ad 5)) (C := RX2) (T := TX2) (N := 12) hx hb hts hiX2 hown hK hP 3 rfl rfl 5 (by decide) ln124 (fun _ h9 => h9) rfl dX9_plank_54 ?_
      refine lv_iload_n hx hb dX9_plank_57 rfl (lv_at hl 1 rfl) ?_
      obtain ⟨hin4, hf⟩ := gi_out hf
      refine va_iald hx hb hK hP 5 1 rfl rfl hin4 dX9_plank_58 ?_
      obtain rfl := Option.some.inj hf
      exact kr H locs ls 59 dX9_plank_59 hP hS
    have hf := itF hf c14_1
    by_cases c14_2 : x2 = 2
    · have hf := itT hf c14_2
      refine lv_tableIn (tgt := 60) hx hb dX9_plank_14 (by rw [c14_2]; decide) (by rw [c14_2]; decide) (by rw [c14_2]; rfl) (by decide) ?_
      refine lv_aload_n hx hb dX9_plank_60 rfl (lv_at hl 0 rfl) ?_
      refine va_get (D := D) (ci := 9) (v := .ref (ad 23)) (C := RX9) (T := TX9) (N := 11) hx hb hts hiX9 hown hK hP 0 rfl rfl 3 (by decide) lk35 (fun _ h9 => h9) rfl dX9_plank_61 ?_
      refine va_getN (D := D) (ci := 3) (v := .ref (ad 24)) (C := RX3) (T := TX3) (N := 4) hx hb hts hiX3 hown hK hP 23 rfl rfl 0 (by decide) ln127 (fun _ h9 => h9) rfl dX9_plank_64 ?_
      refine lv_iload_n hx hb dX9_plank_67 rfl (lv_at hl 1 rfl) ?_
      obtain ⟨hin5, hf⟩ := gi_out hf
      refine va_iald hx hb hK hP 24 1 rfl rfl hin5 dX9_plank_68 ?_
      obtain rfl := Option.some.inj hf
      exact kr H locs ls 69 dX9_plank_69 hP hS
    have hf := itF hf c14_2
    refine lv_tableOut (tgt := 70) hx hb dX9_plank_14 (by have h0 := lv_neT c14_0 (a := 0) rfl; have h1 := lv_neT c14_1 (a := 1) rfl; have h2 := lv_neT c14_2 (a := 2) rfl; omega) (by decide) ?_
    refine lv_iconst (v := (-1)) hx hb dX9_plank_70 (by decide) ?_
    obtain rfl := Option.some.inj hf
    exact kr H locs ls 71 dX9_plank_71 hP hS
  · have hf := itT hf c8
    refine lv_iconst (v := (-1)) hx hb dX9_plank_11 (by decide) ?_
    obtain rfl := Option.some.inj hf
    exact kr H locs ls 12 dX9_plank_12 hP hS
set_option maxHeartbeats 4000000 in
set_option maxRecDepth 100000 in
theorem c_X9_plank (hj : jP ad) (l : Launch) (x1 : Int32) (x2 : Int32) (f : mM) (t : Int64) (r : Int32) (hf : q_X9_plank x1 x2 f = some r) : Met l yX9_plank wsX9_plank ({ frames := 1, cells := 0, slots := 0, locals := 21 }) (va_Pc ([.ref (ad 0), .int x1, .int x2]) (pre D cy (wP ad cy) (xP ad sk sv) f t)) (va_Qi (fun (r2 : Int32) (u : mM × Int64) => r2 = r ∧ u = (f, t)) (atW D (wP ad cy)) (aP ad)) 0 0 (aP ad) := by
  refine Met.ofW (cc := cX9_plank) (maxL := 3) (ret := (some .int)) (by decide) rfl ?_
  intro p e s m args below meth c s₁ B hml hv
  obtain ⟨rfl, hP, hK, hX0⟩ := hv
  have hl := lv_entry ([.ref (ad 0), .int x1, .int x2]) (n := 3) (Nat.le_of_ble_eq_true rfl)
  rw [lg_entry_eq]
  generalize (lg_sl ([.ref (ad 0), .int x1, .int x2]) ++ List.replicate (3 - (lg_sl ([.ref (ad 0), .int x1, .int x2])).length) Slot.unset).toArray = ls at hl ⊢
  have hlocks := B.notSynchronized
  exact b_X9_plank ⟨B.exec, B.bytes, B.returns, hml, findClass_of_methodNamed B.named, atoms_spec (ws := wsX9_plank) B.pre, hlocks, hK, hX0⟩ hj ⟨Nat.le_refl _, Nat.le_refl _⟩ x1 x2 f t r hf (fun H locs ls pc hd hP hS => W.iret B.exec B.bytes B.returns (fun t2 ht hW => ⟨⟨r, (f, t), rfl, ⟨rfl, rfl⟩, by show va_P D vwCl _ t2.heap; rw [ht]; exact hP⟩, hS.F ht⟩) hS.2.2 hd) s.heap [] ls hP va_S.rf hl
def q_X9_person (x1 : Int32) (x2 : Int32) (f : mM) : Option (Int32) := bi (q_X2_isPerson x1 f) (fun y1 => if y1 = 0 then some (-1) else if x2 = 0 then gi x1 4 (some (f 7 (Int32.toNatClampNeg x1))) else if x2 = 1 then gi x1 4 (some (f 8 (Int32.toNatClampNeg x1))) else some (-1))
set_option maxHeartbeats 4000000 in
set_option maxRecDepth 100000 in
theorem b_X9_person (C0 : cX p s m args meth c cX9_person 3 (some .int) RX9 wsX9_person D cy (xP ad sk sv)) (hj : jP ad) (hR : 1 ≤ R.frames ∧ 21 ≤ R.locals) (x1 : Int32) (x2 : Int32) (f : mM) (t : Int64) (r : Int32) (hf : q_X9_person x1 x2 f = some r) (kr : ∀ (H : Heap) (locs : List Loc) (ls : Array Slot) (pc : Nat), decode cX9_person pc = .ok (.ireturn, 1) → va_P D vwCl (wP ad cy f t) H → va_S (aP ad) s.heap H locs → W p l e R s m args below meth c H locs 0 0 Q (F0 m pc ls [.int r])) (H : Heap) (locs : List Loc) (ls : Array Slot) (hP : va_P D vwCl (wP ad cy f t) H) (hS : va_S (aP ad) s.heap H locs) (hl : lv_has ls 3 [(0, .ref (ad 0)), (1, .int x1), (2, .int x2)]) : W p l e R s m args below meth c H locs 0 0 Q (F0 m 0 ls []) := by
  obtain ⟨hx, hb, hr, hml, hown, hts, hlocks, hK, hX0⟩ := id C0
  have lk19 := hts (.fieldLink RX9 19 "PlankNine" "told" "LPlankNine$Marsh;") (List.mem_of_getElem? (i := 1) rfl)
  have hiX9 : ∀ w ∈ u_ws RX9 TX9 11, w ∈ wsX9_person := fun w h => List.mem_cons_of_mem _ (List.mem_append_left _ (List.mem_append_right _ h))
  have ln133 := nlF_27 (args := args) hX0
  have hiX2 : ∀ w ∈ u_ws RX2 TX2 12, w ∈ wsX9_person := fun w h => List.mem_cons_of_mem _ (List.mem_append_right _ h)
  have ln136 := nlF_29 (args := args) hX0
  unfold q_X9_person at hf
  refine lv_aload_n hx hb dX9_person_0 rfl (lv_at hl 0 rfl) ?_
  refine va_get (D := D) (ci := 9) (v := .ref (ad 3)) (C := RX9) (T := TX9) (N := 11) hx hb hts hiX9 hown hK hP 0 rfl rfl 1 (by decide) lk19 (fun _ h9 => h9) rfl dX9_person_1 ?_
  refine lv_iload_n hx hb dX9_person_4 rfl (lv_at hl 1 rfl) ?_
  obtain ⟨y1, hq2, hf⟩ := bi_out hf
  refine cw_vi (As := [.int x1]) (rest := []) ⟨hx, hb, hml, hown, hts⟩ xP_S hK hX0 hS hP (c_X2_isPerson hj l x1 f t y1 hq2) (cwV 1 hts gX9_person_X2_isPerson rfl rfl rfl (by decide +kernel) ⟨Nat.le_trans (Nat.le_of_ble_eq_true rfl) hR.1, Nat.le_trans (Nat.le_of_ble_eq_true rfl) hR.2⟩) (va_recv hK hP (ci := 2) (q0 := 3) rfl rfl) rfl hl.1 rfl (Nat.le_of_ble_eq_true rfl) ⟨Nat.zero_le _, Nat.zero_le _⟩ dX9_person_5 (fun H locs hP hS => ?_)
  refine lv_if_ne (tgt := 13) hx hb dX9_person_8 (by decide) (fun c8 => ?_) (fun c8 => ?_)
  · have hf := itF hf c8
    refine lv_iload_n hx hb dX9_person_13 rfl (lv_at hl 2 rfl) ?_
    by_cases c14_0 : x2 = 0
    · have hf := itT hf c14_0
      refine lv_lookup (off := 26) (tgt := 40) hx hb dX9_person_14 rfl (by subst c14_0; rfl) (by decide) ?_
      refine lv_aload_n hx hb dX9_person_40 rfl (lv_at hl 0 rfl) ?_
      refine va_get (D := D) (ci := 9) (v := .ref (ad 3)) (C := RX9) (T := TX9) (N := 11) hx hb hts hiX9 hown hK hP 0 rfl rfl 1 (by decide) lk19 (fun _ h9 => h9) rfl dX9_person_41 ?_
      refine va_getN (D := D) (ci := 2) (v := .ref (ad 7)) (C := RX2) (T := TX2) (N := 12) hx hb hts hiX2 hown hK hP 3 rfl rfl 7 (by decide) ln133 (fun _ h9 => h9) rfl dX9_person_44 ?_
      refine lv_iload_n hx hb dX9_person_47 rfl (lv_at hl 1 rfl) ?_
      obtain ⟨hin3, hf⟩ := gi_out hf
      refine va_iald hx hb hK hP 7 1 rfl rfl hin3 dX9_person_48 ?_
      obtain rfl := Option.some.inj hf
      exact kr H locs ls 49 dX9_person_49 hP hS
    have hf := itF hf c14_0
    by_cases c14_1 : x2 = 1
    · have hf := itT hf c14_1
      refine lv_lookup (off := 36) (tgt := 50) hx hb dX9_person_14 rfl (by subst c14_1; rfl) (by decide) ?_
      refine lv_aload_n hx hb dX9_person_50 rfl (lv_at hl 0 rfl) ?_
      refine va_get (D := D) (ci := 9) (v := .ref (ad 3)) (C := RX9) (T := TX9) (N := 11) hx hb hts hiX9 hown hK hP 0 rfl rfl 1 (by decide) lk19 (fun _ h9 => h9) rfl dX9_person_51 ?_
      refine va_getN (D := D) (ci := 2) (v := .ref (ad 8)) (C := RX2) (T := TX2) (N := 12) hx hb hts hiX2 hown hK hP 3 rfl rfl 8 (by decide) ln136 (fun _ h9 => h9) rfl dX9_person_54 ?_
      refine lv_iload_n hx hb dX9_person_57 rfl (lv_at hl 1 rfl) ?_
      obtain ⟨hin4, hf⟩ := gi_out hf
      refine va_iald hx hb hK hP 8 1 rfl rfl hin4 dX9_person_58 ?_
      obtain rfl := Option.some.inj hf
      exact kr H locs ls 59 dX9_person_59 hP hS
    have hf := itF hf c14_1
    refine lv_lookup (off := 46) (tgt := 60) hx hb dX9_person_14 rfl ((lv_osw c14_0 rfl).trans ((lv_osw c14_1 rfl).trans rfl)) (by decide) ?_
    refine lv_iconst (v := (-1)) hx hb dX9_person_60 (by decide) ?_
    obtain rfl := Option.some.inj hf
    exact kr H locs ls 61 dX9_person_61 hP hS
  · have hf := itT hf c8
    refine lv_iconst (v := (-1)) hx hb dX9_person_11 (by decide) ?_
    obtain rfl := Option.some.inj hf
    exact kr H locs ls 12 dX9_person_12 hP hS
set_option maxHeartbeats 4000000 in
set_option maxRecDepth 100000 in
theorem c_X9_person (hj : jP ad) (l : Launch) (x1 : Int32) (x2 : Int32) (f : mM) (t : Int64) (r : Int32) (hf : q_X9_person x1 x2 f = some r) : Met l yX9_person wsX9_person ({ frames := 1, cells := 0, slots := 0, locals := 21 }) (va_Pc ([.ref (ad 0), .int x1, .int x2]) (pre D cy (wP ad cy) (xP ad sk sv) f t)) (va_Qi (fun (r2 : Int32) (u : mM × Int64) => r2 = r ∧ u = (f, t)) (atW D (wP ad cy)) (aP ad)) 0 0 (aP ad) := by
  refine Met.ofW (cc := cX9_person) (maxL := 3) (ret := (some .int)) (by decide) rfl ?_
  intro p e s m args below meth c s₁ B hml hv
  obtain ⟨rfl, hP, hK, hX0⟩ := hv
  have hl := lv_entry ([.ref (ad 0), .int x1, .int x2]) (n := 3) (Nat.le_of_ble_eq_true rfl)
  rw [lg_entry_eq]
  generalize (lg_sl ([.ref (ad 0), .int x1, .int x2]) ++ List.replicate (3 - (lg_sl ([.ref (ad 0), .int x1, .int x2])).length) Slot.unset).toArray = ls at hl ⊢
  have hlocks := B.notSynchronized
  exact b_X9_person ⟨B.exec, B.bytes, B.returns, hml, findClass_of_methodNamed B.named, atoms_spec (ws := wsX9_person) B.pre, hlocks, hK, hX0⟩ hj ⟨Nat.le_refl _, Nat.le_refl _⟩ x1 x2 f t r hf (fun H locs ls pc hd hP hS => W.iret B.exec B.bytes B.returns (fun t2 ht hW => ⟨⟨r, (f, t), rfl, ⟨rfl, rfl⟩, by show va_P D vwCl _ t2.heap; rw [ht]; exact hP⟩, hS.F ht⟩) hS.2.2 hd) s.heap [] ls hP va_S.rf hl
def q_X9_errand (x1 : Int32) (x2 : Int32) (f : mM) : Option (Int32) := bi (q_X2_isErrand x1 f) (fun y1 => if y1 = 0 then some (-1) else if x2 = 0 then gi x1 3 (some (f 9 (Int32.toNatClampNeg x1))) else if x2 = 1 then gi x1 3 (some (f 10 (Int32.toNatClampNeg x1))) else if x2 = 2 then gi x1 3 (some (f 11 (Int32.toNatClampNeg x1))) else some (-1))
set_option maxHeartbeats 4000000 in
set_option maxRecDepth 100000 in
theorem b_X9_errand (C0 : cX p s m args meth c cX9_errand 3 (some .int) RX9 wsX9_errand D cy (xP ad sk sv)) (hj : jP ad) (hR : 1 ≤ R.frames ∧ 21 ≤ R.locals) (x1 : Int32) (x2 : Int32) (f : mM) (t : Int64) (r : Int32) (hf : q_X9_errand x1 x2 f = some r) (kr : ∀ (H : Heap) (locs : List Loc) (ls : Array Slot) (pc : Nat), decode cX9_errand pc = .ok (.ireturn, 1) → va_P D vwCl (wP ad cy f t) H → va_S (aP ad) s.heap H locs → W p l e R s m args below meth c H locs 0 0 Q (F0 m pc ls [.int r])) (H : Heap) (locs : List Loc) (ls : Array Slot) (hP : va_P D vwCl (wP ad cy f t) H) (hS : va_S (aP ad) s.heap H locs) (hl : lv_has ls 3 [(0, .ref (ad 0)), (1, .int x1), (2, .int x2)]) : W p l e R s m args below meth c H locs 0 0 Q (F0 m 0 ls []) := by
  obtain ⟨hx, hb, hr, hml, hown, hts, hlocks, hK, hX0⟩ := id C0
  have lk19 := hts (.fieldLink RX9 19 "PlankNine" "told" "LPlankNine$Marsh;") (List.mem_of_getElem? (i := 1) rfl)
  have hiX9 : ∀ w ∈ u_ws RX9 TX9 11, w ∈ wsX9_errand := fun w h => List.mem_cons_of_mem _ (List.mem_append_left _ (List.mem_append_right _ h))
  have ln142 := nlF_32 (args := args) hX0
  have hiX2 : ∀ w ∈ u_ws RX2 TX2 12, w ∈ wsX9_errand := fun w h => List.mem_cons_of_mem _ (List.mem_append_right _ h)
  have ln145 := nlF_35 (args := args) hX0
  have ln148 := nlF_38 (args := args) hX0
  unfold q_X9_errand at hf
  refine lv_aload_n hx hb dX9_errand_0 rfl (lv_at hl 0 rfl) ?_
  refine va_get (D := D) (ci := 9) (v := .ref (ad 3)) (C := RX9) (T := TX9) (N := 11) hx hb hts hiX9 hown hK hP 0 rfl rfl 1 (by decide) lk19 (fun _ h9 => h9) rfl dX9_errand_1 ?_
  refine lv_iload_n hx hb dX9_errand_4 rfl (lv_at hl 1 rfl) ?_
  obtain ⟨y1, hq2, hf⟩ := bi_out hf
  refine cw_vi (As := [.int x1]) (rest := []) ⟨hx, hb, hml, hown, hts⟩ xP_S hK hX0 hS hP (c_X2_isErrand hj l x1 f t y1 hq2) (cwV 1 hts gX9_errand_X2_isErrand rfl rfl rfl (by decide +kernel) ⟨Nat.le_trans (Nat.le_of_ble_eq_true rfl) hR.1, Nat.le_trans (Nat.le_of_ble_eq_true rfl) hR.2⟩) (va_recv hK hP (ci := 2) (q0 := 3) rfl rfl) rfl hl.1 rfl (Nat.le_of_ble_eq_true rfl) ⟨Nat.zero_le _, Nat.zero_le _⟩ dX9_errand_5 (fun H locs hP hS => ?_)
  refine lv_if_ne (tgt := 13) hx hb dX9_errand_8 (by decide) (fun c8 => ?_) (fun c8 => ?_)
  · have hf := itF hf c8
    refine lv_iload_n hx hb dX9_errand_13 rfl (lv_at hl 2 rfl) ?_
    by_cases c14_0 : x2 = 0
    · have hf := itT hf c14_0
      refine lv_tableIn (tgt := 40) hx hb dX9_errand_14 (by rw [c14_0]; decide) (by rw [c14_0]; decide) (by rw [c14_0]; rfl) (by decide) ?_
      refine lv_aload_n hx hb dX9_errand_40 rfl (lv_at hl 0 rfl) ?_
      refine va_get (D := D) (ci := 9) (v := .ref (ad 3)) (C := RX9) (T := TX9) (N := 11) hx hb hts hiX9 hown hK hP 0 rfl rfl 1 (by decide) lk19 (fun _ h9 => h9) rfl dX9_errand_41 ?_
      refine va_getN (D := D) (ci := 2) (v := .ref (ad 9)) (C := RX2) (T := TX2) (N := 12) hx hb hts hiX2 hown hK hP 3 rfl rfl 9 (by decide) ln142 (fun _ h9 => h9) rfl dX9_errand_44 ?_
      refine lv_iload_n hx hb dX9_errand_47 rfl (lv_at hl 1 rfl) ?_
      obtain ⟨hin3, hf⟩ := gi_out hf
      refine va_iald hx hb hK hP 9 1 rfl rfl hin3 dX9_errand_48 ?_
      obtain rfl := Option.some.inj hf
      exact kr H locs ls 49 dX9_errand_49 hP hS
    have hf := itF hf c14_0
    by_cases c14_1 : x2 = 1
    · have hf := itT hf c14_1
      refine lv_tableIn (tgt := 50) hx hb dX9_errand_14 (by rw [c14_1]; decide) (by rw [c14_1]; decide) (by rw [c14_1]; rfl) (by decide) ?_
      refine lv_aload_n hx hb dX9_errand_50 rfl (lv_at hl 0 rfl) ?_
      refine va_get (D := D) (ci := 9) (v := .ref (ad 3)) (C := RX9) (T := TX9) (N := 11) hx hb hts hiX9 hown hK hP 0 rfl rfl 1 (by decide) lk19 (fun _ h9 => h9) rfl dX9_errand_51 ?_
      refine va_getN (D := D) (ci := 2) (v := .ref (ad 10)) (C := RX2) (T := TX2) (N := 12) hx hb hts hiX2 hown hK hP 3 rfl rfl 10 (by decide) ln145 (fun _ h9 => h9) rfl dX9_errand_54 ?_
      refine lv_iload_n hx hb dX9_errand_57 rfl (lv_at hl 1 rfl) ?_
      obtain ⟨hin4, hf⟩ := gi_out hf
      refine va_iald hx hb hK hP 10 1 rfl rfl hin4 dX9_errand_58 ?_
      obtain rfl := Option.some.inj hf
      exact kr H locs ls 59 dX9_errand_59 hP hS
    have hf := itF hf c14_1
    by_cases c14_2 : x2 = 2
    · have hf := itT hf c14_2
      refine lv_tableIn (tgt := 60) hx hb dX9_errand_14 (by rw [c14_2]; decide) (by rw [c14_2]; decide) (by rw [c14_2]; rfl) (by decide) ?_
      refine lv_aload_n hx hb dX9_errand_60 rfl (lv_at hl 0 rfl) ?_
      refine va_get (D := D) (ci := 9) (v := .ref (ad 3)) (C := RX9) (T := TX9) (N := 11) hx hb hts hiX9 hown hK hP 0 rfl rfl 1 (by decide) lk19 (fun _ h9 => h9) rfl dX9_errand_61 ?_
      refine va_getN (D := D) (ci := 2) (v := .ref (ad 11)) (C := RX2) (T := TX2) (N := 12) hx hb hts hiX2 hown hK hP 3 rfl rfl 11 (by decide) ln148 (fun _ h9 => h9) rfl dX9_errand_64 ?_
      refine lv_iload_n hx hb dX9_errand_67 rfl (lv_at hl 1 rfl) ?_
      obtain ⟨hin5, hf⟩ := gi_out hf
      refine va_iald hx hb hK hP 11 1 rfl rfl hin5 dX9_errand_68 ?_
      obtain rfl := Option.some.inj hf
      exact kr H locs ls 69 dX9_errand_69 hP hS
    have hf := itF hf c14_2
    refine lv_tableOut (tgt := 70) hx hb dX9_errand_14 (by have h0 := lv_neT c14_0 (a := 0) rfl; have h1 := lv_neT c14_1 (a := 1) rfl; have h2 := lv_neT c14_2 (a := 2) rfl; omega) (by decide) ?_
    refine lv_iconst (v := (-1)) hx hb dX9_errand_70 (by decide) ?_
    obtain rfl := Option.some.inj hf
    exact kr H locs ls 71 dX9_errand_71 hP hS
  · have hf := itT hf c8
    refine lv_iconst (v := (-1)) hx hb dX9_errand_11 (by decide) ?_
    obtain rfl := Option.some.inj hf
    exact kr H locs ls 12 dX9_errand_12 hP hS
set_option maxHeartbeats 4000000 in
set_option maxRecDepth 100000 in
theorem c_X9_errand (hj : jP ad) (l : Launch) (x1 : Int32) (x2 : Int32) (f : mM) (t : Int64) (r : Int32) (hf : q_X9_errand x1 x2 f = some r) : Met l yX9_errand wsX9_errand ({ frames := 1, cells := 0, slots := 0, locals := 21 }) (va_Pc ([.ref (ad 0), .int x1, .int x2]) (pre D cy (wP ad cy) (xP ad sk sv) f t)) (va_Qi (fun (r2 : Int32) (u : mM × Int64) => r2 = r ∧ u = (f, t)) (atW D (wP ad cy)) (aP ad)) 0 0 (aP ad) := by
  refine Met.ofW (cc := cX9_errand) (maxL := 3) (ret := (some .int)) (by decide) rfl ?_
  intro p e s m args below meth c s₁ B hml hv
  obtain ⟨rfl, hP, hK, hX0⟩ := hv
  have hl := lv_entry ([.ref (ad 0), .int x1, .int x2]) (n := 3) (Nat.le_of_ble_eq_true rfl)
  rw [lg_entry_eq]
  generalize (lg_sl ([.ref (ad 0), .int x1, .int x2]) ++ List.replicate (3 - (lg_sl ([.ref (ad 0), .int x1, .int x2])).length) Slot.unset).toArray = ls at hl ⊢
  have hlocks := B.notSynchronized
  exact b_X9_errand ⟨B.exec, B.bytes, B.returns, hml, findClass_of_methodNamed B.named, atoms_spec (ws := wsX9_errand) B.pre, hlocks, hK, hX0⟩ hj ⟨Nat.le_refl _, Nat.le_refl _⟩ x1 x2 f t r hf (fun H locs ls pc hd hP hS => W.iret B.exec B.bytes B.returns (fun t2 ht hW => ⟨⟨r, (f, t), rfl, ⟨rfl, rfl⟩, by show va_P D vwCl _ t2.heap; rw [ht]; exact hP⟩, hS.F ht⟩) hS.2.2 hd) s.heap [] ls hP va_S.rf hl
def q_X9_steps (x1 : Int32) (x2 : Int32) (f : mM) : Option (Int32 × mM) := bi (q_X2_isPerson x1 f) (fun y1 => if y1 = 0 then some ((-1), f) else bi (q_X2_isPlank x2 f) (fun y3 => if y3 = 0 then some ((-1), f) else gi x1 4 (sq (f 7 (Int32.toNatClampNeg x1)) (fun x3_6 => bi (q_X3_canTake x2 x3_6 f) (fun y7 => if y7 = 0 then some ((-2), f) else bi2 (q_X3_take x2 x3_6 x1 f) (fun y9 f10 => gi x2 9 (some ((f10 24 (Int32.toNatClampNeg x2)), f10))))))))
set_option maxHeartbeats 4000000 in
set_option maxRecDepth 100000 in
theorem b_X9_steps (C0 : cX p s m args meth c cX9_steps 4 (some .int) RX9 wsX9_steps D cy (xP ad sk sv)) (hj : jP ad) (hR : 1 ≤ R.frames ∧ 23 ≤ R.locals) (x1 : Int32) (x2 : Int32) (f : mM) (t : Int64) (r : Int32) (fR : mM) (hf : q_X9_steps x1 x2 f = some (r, fR)) (kr : ∀ (H : Heap) (locs : List Loc) (ls : Array Slot) (pc : Nat), decode cX9_steps pc = .ok (.ireturn, 1) → va_P D vwCl (wP ad cy fR t) H → va_S (aP ad) s.heap H locs → W p l e R s m args below meth c H locs 0 0 Q (F0 m pc ls [.int r])) (H : Heap) (locs : List Loc) (ls : Array Slot) (hP : va_P D vwCl (wP ad cy f t) H) (hS : va_S (aP ad) s.heap H locs) (hl : lv_has ls 4 [(0, .ref (ad 0)), (1, .int x1), (2, .int x2)]) : W p l e R s m args below meth c H locs 0 0 Q (F0 m 0 ls []) := by
  obtain ⟨hx, hb, hr, hml, hown, hts, hlocks, hK, hX0⟩ := id C0
  have lk19 := hts (.fieldLink RX9 19 "PlankNine" "told" "LPlankNine$Marsh;") (List.mem_of_getElem? (i := 1) rfl)
  have hiX9 : ∀ w ∈ u_ws RX9 TX9 11, w ∈ wsX9_steps := fun w h => List.mem_cons_of_mem _ (List.mem_append_left _ (List.mem_append_left _ (List.mem_append_right _ h)))
  have ln133 := nlF_27 (args := args) hX0
  have hiX2 : ∀ w ∈ u_ws RX2 TX2 12, w ∈ wsX9_steps := fun w h => List.mem_cons_of_mem _ (List.mem_append_left _ (List.mem_append_right _ h))
  have lk35 := hts (.fieldLink RX9 35 "PlankNine" "now" "LPlankNine$Now;") (List.mem_of_getElem? (i := 2) rfl)
  have ln127 := nlF_43 (args := args) hX0
  have hiX3 : ∀ w ∈ u_ws RX3 TX3 4, w ∈ wsX9_steps := fun w h => List.mem_cons_of_mem _ (List.mem_append_right _ h)
  unfold q_X9_steps at hf
  refine lv_aload_n hx hb dX9_steps_0 rfl (lv_at hl 0 rfl) ?_
  refine va_get (D := D) (ci := 9) (v := .ref (ad 3)) (C := RX9) (T := TX9) (N := 11) hx hb hts hiX9 hown hK hP 0 rfl rfl 1 (by decide) lk19 (fun _ h9 => h9) rfl dX9_steps_1 ?_
  refine lv_iload_n hx hb dX9_steps_4 rfl (lv_at hl 1 rfl) ?_
  obtain ⟨y1, hq2, hf⟩ := bi_out hf
  refine cw_vi (As := [.int x1]) (rest := []) ⟨hx, hb, hml, hown, hts⟩ xP_S hK hX0 hS hP (c_X2_isPerson hj l x1 f t y1 hq2) (cwV 1 hts gX9_steps_X2_isPerson rfl rfl rfl (by decide +kernel) ⟨Nat.le_trans (Nat.le_of_ble_eq_true rfl) hR.1, Nat.le_trans (Nat.le_of_ble_eq_true rfl) hR.2⟩) (va_recv hK hP (ci := 2) (q0 := 3) rfl rfl) rfl hl.1 rfl (Nat.le_of_ble_eq_true rfl) ⟨Nat.zero_le _, Nat.zero_le _⟩ dX9_steps_5 (fun H locs hP hS => ?_)
  refine lv_if_eq (tgt := 22) hx hb dX9_steps_8 (by decide) (fun c8 => ?_) (fun c8 => ?_)
  · have hf := itT hf c8
    refine lv_iconst (v := (-1)) hx hb dX9_steps_22 (by decide) ?_
    obtain ⟨rfl, rfl⟩ := Prod.mk.inj (Option.some.inj hf)
    exact kr H locs ls 23 dX9_steps_23 hP hS
  · have hf := itF hf c8
    refine lv_aload_n hx hb dX9_steps_11 rfl (lv_at hl 0 rfl) ?_
    refine va_get (D := D) (ci := 9) (v := .ref (ad 3)) (C := RX9) (T := TX9) (N := 11) hx hb hts hiX9 hown hK hP 0 rfl rfl 1 (by decide) lk19 (fun _ h9 => h9) rfl dX9_steps_12 ?_
    refine lv_iload_n hx hb dX9_steps_15 rfl (lv_at hl 2 rfl) ?_
    obtain ⟨y3, hq4, hf⟩ := bi_out hf
    refine cw_vi (As := [.int x2]) (rest := []) ⟨hx, hb, hml, hown, hts⟩ xP_S hK hX0 hS hP (c_X2_isPlank hj l x2 f t y3 hq4) (cwV 1 hts gX9_steps_X2_isPlank rfl rfl rfl (by decide +kernel) ⟨Nat.le_trans (Nat.le_of_ble_eq_true rfl) hR.1, Nat.le_trans (Nat.le_of_ble_eq_true rfl) hR.2⟩) (va_recv hK hP (ci := 2) (q0 := 3) rfl rfl) rfl hl.1 rfl (Nat.le_of_ble_eq_true rfl) ⟨Nat.zero_le _, Nat.zero_le _⟩ dX9_steps_16 (fun H locs hP hS => ?_)
    refine lv_if_ne (tgt := 24) hx hb dX9_steps_19 (by decide) (fun c19 => ?_) (fun c19 => ?_)
    · have hf := itF hf c19
      refine lv_aload_n hx hb dX9_steps_24 rfl (lv_at hl 0 rfl) ?_
      refine va_get (D := D) (ci := 9) (v := .ref (ad 3)) (C := RX9) (T := TX9) (N := 11) hx hb hts hiX9 hown hK hP 0 rfl rfl 1 (by decide) lk19 (fun _ h9 => h9) rfl dX9_steps_25 ?_
      refine va_getN (D := D) (ci := 2) (v := .ref (ad 7)) (C := RX2) (T := TX2) (N := 12) hx hb hts hiX2 hown hK hP 3 rfl rfl 7 (by decide) ln133 (fun _ h9 => h9) rfl dX9_steps_28 ?_
      refine lv_iload_n hx hb dX9_steps_31 rfl (lv_at hl 1 rfl) ?_
      obtain ⟨hin5, hf⟩ := gi_out hf
      refine va_iald hx hb hK hP 7 1 rfl rfl hin5 dX9_steps_32 ?_
      obtain ⟨x3_6, ex3_6, hf⟩ := sq_out hf
      refine lv_nmi ex3_6 ?_
      refine lv_istore_n (lv' := [(3, .int x3_6), (0, .ref (ad 0)), (1, .int x1), (2, .int x2)]) hx hb dX9_steps_33 rfl hl (by decide) rfl (fun ls hl => ?_)
      refine lv_aload_n hx hb dX9_steps_34 rfl (lv_at hl 1 rfl) ?_
      refine va_get (D := D) (ci := 9) (v := .ref (ad 23)) (C := RX9) (T := TX9) (N := 11) hx hb hts hiX9 hown hK hP 0 rfl rfl 3 (by decide) lk35 (fun _ h9 => h9) rfl dX9_steps_35 ?_
      refine lv_iload_n hx hb dX9_steps_38 rfl (lv_at hl 3 rfl) ?_
      refine lv_iload_n hx hb dX9_steps_39 rfl (lv_at hl 0 rfl) ?_
      obtain ⟨y7, hq8, hf⟩ := bi_out hf
      refine cw_vi (As := [.int x2, .int x3_6]) (rest := []) ⟨hx, hb, hml, hown, hts⟩ xP_S hK hX0 hS hP (c_X3_canTake hj l x2 x3_6 f t y7 hq8) (cwV 2 hts gX9_steps_X3_canTake rfl rfl rfl (by decide +kernel) ⟨Nat.le_trans (Nat.le_of_ble_eq_true rfl) hR.1, Nat.le_trans (Nat.le_of_ble_eq_true rfl) hR.2⟩) (va_recv hK hP (ci := 3) (q0 := 23) rfl rfl) rfl hl.1 rfl (Nat.le_of_ble_eq_true rfl) ⟨Nat.zero_le _, Nat.zero_le _⟩ dX9_steps_40 (fun H locs hP hS => ?_)
      refine lv_if_ne (tgt := 49) hx hb dX9_steps_43 (by decide) (fun c43 => ?_) (fun c43 => ?_)
      · have hf := itF hf c43
        refine lv_aload_n hx hb dX9_steps_49 rfl (lv_at hl 1 rfl) ?_
        refine va_get (D := D) (ci := 9) (v := .ref (ad 23)) (C := RX9) (T := TX9) (N := 11) hx hb hts hiX9 hown hK hP 0 rfl rfl 3 (by decide) lk35 (fun _ h9 => h9) rfl dX9_steps_50 ?_
        refine lv_iload_n hx hb dX9_steps_53 rfl (lv_at hl 3 rfl) ?_
        refine lv_iload_n hx hb dX9_steps_54 rfl (lv_at hl 0 rfl) ?_
        refine lv_iload_n hx hb dX9_steps_55 rfl (lv_at hl 2 rfl) ?_
        obtain ⟨y9, f10, hq11, hf⟩ := bi2_out hf
        refine cw_vi (As := [.int x2, .int x3_6, .int x1]) (rest := []) ⟨hx, hb, hml, hown, hts⟩ xP_S hK hX0 hS hP (c_X3_take hj l x2 x3_6 x1 f t y9 f10 hq11) (cwV 3 hts gX9_steps_X3_take rfl rfl rfl (by decide +kernel) ⟨Nat.le_trans (Nat.le_of_ble_eq_true rfl) hR.1, Nat.le_trans (Nat.le_of_ble_eq_true rfl) hR.2⟩) (va_recv hK hP (ci := 3) (q0 := 23) rfl rfl) rfl hl.1 rfl (Nat.le_of_ble_eq_true rfl) ⟨Nat.zero_le _, Nat.zero_le _⟩ dX9_steps_56 (fun H locs hP hS => ?_)
        refine lv_pop hx hb dX9_steps_59 rfl ?_
        refine lv_aload_n hx hb dX9_steps_60 rfl (lv_at hl 1 rfl) ?_
        refine va_get (D := D) (ci := 9) (v := .ref (ad 23)) (C := RX9) (T := TX9) (N := 11) hx hb hts hiX9 hown hK hP 0 rfl rfl 3 (by decide) lk35 (fun _ h9 => h9) rfl dX9_steps_61 ?_
        refine va_getN (D := D) (ci := 3) (v := .ref (ad 24)) (C := RX3) (T := TX3) (N := 4) hx hb hts hiX3 hown hK hP 23 rfl rfl 0 (by decide) ln127 (fun _ h9 => h9) rfl dX9_steps_64 ?_
        refine lv_iload_n hx hb dX9_steps_67 rfl (lv_at hl 3 rfl) ?_
        obtain ⟨hin12, hf⟩ := gi_out hf
        refine va_iald hx hb hK hP 24 1 rfl rfl hin12 dX9_steps_68 ?_
        obtain ⟨rfl, rfl⟩ := Prod.mk.inj (Option.some.inj hf)
        exact kr H locs ls 69 dX9_steps_69 hP hS
      · have hf := itT hf c43
        refine lv_bipush (v := (-2)) hx hb dX9_steps_46 (by decide) ?_
        obtain ⟨rfl, rfl⟩ := Prod.mk.inj (Option.some.inj hf)
        exact kr H locs ls 48 dX9_steps_48 hP hS
    · have hf := itT hf c19
      refine lv_iconst (v := (-1)) hx hb dX9_steps_22 (by decide) ?_
      obtain ⟨rfl, rfl⟩ := Prod.mk.inj (Option.some.inj hf)
      exact kr H locs ls 23 dX9_steps_23 hP hS
set_option maxHeartbeats 4000000 in
set_option maxRecDepth 100000 in
theorem c_X9_steps (hj : jP ad) (l : Launch) (x1 : Int32) (x2 : Int32) (f : mM) (t : Int64) (r : Int32) (fR : mM) (hf : q_X9_steps x1 x2 f = some (r, fR)) : Met l yX9_steps wsX9_steps ({ frames := 1, cells := 0, slots := 0, locals := 23 }) (va_Pc ([.ref (ad 0), .int x1, .int x2]) (pre D cy (wP ad cy) (xP ad sk sv) f t)) (va_Qi (fun (r2 : Int32) (u : mM × Int64) => r2 = r ∧ u = (fR, t)) (atW D (wP ad cy)) (aP ad)) 0 0 (aP ad) := by
  refine Met.ofW (cc := cX9_steps) (maxL := 4) (ret := (some .int)) (by decide) rfl ?_
  intro p e s m args below meth c s₁ B hml hv
  obtain ⟨rfl, hP, hK, hX0⟩ := hv
  have hl := lv_entry ([.ref (ad 0), .int x1, .int x2]) (n := 4) (Nat.le_of_ble_eq_true rfl)
  rw [lg_entry_eq]
  generalize (lg_sl ([.ref (ad 0), .int x1, .int x2]) ++ List.replicate (4 - (lg_sl ([.ref (ad 0), .int x1, .int x2])).length) Slot.unset).toArray = ls at hl ⊢
  have hlocks := B.notSynchronized
  exact b_X9_steps ⟨B.exec, B.bytes, B.returns, hml, findClass_of_methodNamed B.named, atoms_spec (ws := wsX9_steps) B.pre, hlocks, hK, hX0⟩ hj ⟨Nat.le_refl _, Nat.le_refl _⟩ x1 x2 f t r fR hf (fun H locs ls pc hd hP hS => W.iret B.exec B.bytes B.returns (fun t2 ht hW => ⟨⟨r, (fR, t), rfl, ⟨rfl, rfl⟩, by show va_P D vwCl _ t2.heap; rw [ht]; exact hP⟩, hS.F ht⟩) hS.2.2 hd) s.heap [] ls hP va_S.rf hl
def q_X9_went (x1 : Int32) (x2 : Int32) (f : mM) : Option (Int32) := if x1 < 0 then some (-1) else bi (q_X9_isWithin x2 0 1) (fun y1 => if y1 = 0 then some (-1) else if x1 < (f 23 3) then if x2 = 0 then gi x1 20 (some (f 25 (Int32.toNatClampNeg x1))) else gi x1 20 (some (f 26 (Int32.toNatClampNeg x1))) else some (-5))
set_option maxHeartbeats 4000000 in
set_option maxRecDepth 100000 in
theorem b_X9_went (C0 : cX p s m args meth c cX9_went 3 (some .int) RX9 wsX9_went D cy (xP ad sk sv)) (hj : jP ad) (hR : 1 ≤ R.frames ∧ 22 ≤ R.locals) (x1 : Int32) (x2 : Int32) (f : mM) (t : Int64) (r : Int32) (hf : q_X9_went x1 x2 f = some r) (kr : ∀ (H : Heap) (locs : List Loc) (ls : Array Slot) (pc : Nat), decode cX9_went pc = .ok (.ireturn, 1) → va_P D vwCl (wP ad cy f t) H → va_S (aP ad) s.heap H locs → W p l e R s m args below meth c H locs 0 0 Q (F0 m pc ls [.int r])) (H : Heap) (locs : List Loc) (ls : Array Slot) (hP : va_P D vwCl (wP ad cy f t) H) (hS : va_S (aP ad) s.heap H locs) (hl : lv_has ls 3 [(0, .ref (ad 0)), (1, .int x1), (2, .int x2)]) : W p l e R s m args below meth c H locs 0 0 Q (F0 m 0 ls []) := by
  obtain ⟨hx, hb, hr, hml, hown, hts, hlocks, hK, hX0⟩ := id C0
  have lk35 := hts (.fieldLink RX9 35 "PlankNine" "now" "LPlankNine$Now;") (List.mem_of_getElem? (i := 1) rfl)
  have hiX9 : ∀ w ∈ u_ws RX9 TX9 11, w ∈ wsX9_went := fun w h => List.mem_cons_of_mem _ (List.mem_append_left _ (List.mem_append_right _ h))
  have ln176 := nlF_47 (args := args) hX0
  have hiX3 : ∀ w ∈ u_ws RX3 TX3 4, w ∈ wsX9_went := fun w h => List.mem_cons_of_mem _ (List.mem_append_right _ h)
  have ln182 := nlF_45 (args := args) hX0
  have ln179 := nlF_44 (args := args) hX0
  unfold q_X9_went at hf
  refine lv_iload_n hx hb dX9_went_0 rfl (lv_at hl 1 rfl) ?_
  refine lv_if_lt (tgt := 13) hx hb dX9_went_1 (by decide) (fun c1 => ?_) (fun c1 => ?_)
  · have hf := itT hf c1
    refine lv_iconst (v := (-1)) hx hb dX9_went_13 (by decide) ?_
    obtain rfl := Option.some.inj hf
    exact kr H locs ls 14 dX9_went_14 hP hS
  · have hf := itF hf c1
    refine lv_iload_n hx hb dX9_went_4 rfl (lv_at hl 2 rfl) ?_
    refine lv_iconst (v := 0) hx hb dX9_went_5 (by decide) ?_
    refine lv_iconst (v := 1) hx hb dX9_went_6 (by decide) ?_
    obtain ⟨y1, hq2, hf⟩ := bi_out hf
    refine cw_si (As := [.int x2, .int 0, .int 1]) (rest := []) ⟨hx, hb, hml, hown, hts⟩ xP_S hK hX0 hS hP (c_X9_isWithin hj l x2 0 1 f t y1 hq2) (va_cwS 3 hts gX9_went_X9_isWithin rfl rfl rfl (by decide +kernel) ⟨Nat.le_trans (Nat.le_of_ble_eq_true rfl) hR.1, Nat.le_trans (Nat.le_of_ble_eq_true rfl) hR.2⟩) rfl hl.1 rfl (Nat.le_of_ble_eq_true rfl) ⟨Nat.zero_le _, Nat.zero_le _⟩ dX9_went_7 (fun H locs hP hS => ?_)
    refine lv_if_ne (tgt := 15) hx hb dX9_went_10 (by decide) (fun c10 => ?_) (fun c10 => ?_)
    · have hf := itF hf c10
      refine lv_iload_n hx hb dX9_went_15 rfl (lv_at hl 1 rfl) ?_
      refine lv_aload_n hx hb dX9_went_16 rfl (lv_at hl 0 rfl) ?_
      refine va_get (D := D) (ci := 9) (v := .ref (ad 23)) (C := RX9) (T := TX9) (N := 11) hx hb hts hiX9 hown hK hP 0 rfl rfl 3 (by decide) lk35 (fun _ h9 => h9) rfl dX9_went_17 ?_
      refine va_getN (D := D) (ci := 3) (v := .int (f 23 3)) (C := RX3) (T := TX3) (N := 4) hx hb hts hiX3 hown hK hP 23 rfl rfl 3 (by decide) ln176 (fun _ h9 => h9) rfl dX9_went_20 ?_
      refine lv_icmp_lt (tgt := 29) hx hb dX9_went_23 (by decide) (fun c23 => ?_) (fun c23 => ?_)
      · have hf := itT hf c23
        refine lv_iload_n hx hb dX9_went_29 rfl (lv_at hl 2 rfl) ?_
        refine lv_if_ne (tgt := 45) hx hb dX9_went_30 (by decide) (fun c30 => ?_) (fun c30 => ?_)
        · have hf := itF hf c30
          refine lv_aload_n hx hb dX9_went_45 rfl (lv_at hl 0 rfl) ?_
          refine va_get (D := D) (ci := 9) (v := .ref (ad 23)) (C := RX9) (T := TX9) (N := 11) hx hb hts hiX9 hown hK hP 0 rfl rfl 3 (by decide) lk35 (fun _ h9 => h9) rfl dX9_went_46 ?_
          refine va_getN (D := D) (ci := 3) (v := .ref (ad 26)) (C := RX3) (T := TX3) (N := 4) hx hb hts hiX3 hown hK hP 23 rfl rfl 2 (by decide) ln182 (fun _ h9 => h9) rfl dX9_went_49 ?_
          refine lv_iload_n hx hb dX9_went_52 rfl (lv_at hl 1 rfl) ?_
          obtain ⟨hin3, hf⟩ := gi_out hf
          refine va_iald hx hb hK hP 26 1 rfl rfl hin3 dX9_went_53 ?_
          obtain rfl := Option.some.inj hf
          exact kr H locs ls 54 dX9_went_54 hP hS
        · have hf := itT hf c30
          refine lv_aload_n hx hb dX9_went_33 rfl (lv_at hl 0 rfl) ?_
          refine va_get (D := D) (ci := 9) (v := .ref (ad 23)) (C := RX9) (T := TX9) (N := 11) hx hb hts hiX9 hown hK hP 0 rfl rfl 3 (by decide) lk35 (fun _ h9 => h9) rfl dX9_went_34 ?_
          refine va_getN (D := D) (ci := 3) (v := .ref (ad 25)) (C := RX3) (T := TX3) (N := 4) hx hb hts hiX3 hown hK hP 23 rfl rfl 1 (by decide) ln179 (fun _ h9 => h9) rfl dX9_went_37 ?_
          refine lv_iload_n hx hb dX9_went_40 rfl (lv_at hl 1 rfl) ?_
          obtain ⟨hin4, hf⟩ := gi_out hf
          refine va_iald hx hb hK hP 25 1 rfl rfl hin4 dX9_went_41 ?_
          refine lv_goto (tgt := 54) hx hb dX9_went_42 (by decide) ?_
          obtain rfl := Option.some.inj hf
          exact kr H locs ls 54 dX9_went_54 hP hS
      · have hf := itF hf c23
        refine lv_bipush (v := (-5)) hx hb dX9_went_26 (by decide) ?_
        obtain rfl := Option.some.inj hf
        exact kr H locs ls 28 dX9_went_28 hP hS
    · have hf := itT hf c10
      refine lv_iconst (v := (-1)) hx hb dX9_went_13 (by decide) ?_
      obtain rfl := Option.some.inj hf
      exact kr H locs ls 14 dX9_went_14 hP hS
set_option maxHeartbeats 4000000 in
set_option maxRecDepth 100000 in
theorem c_X9_went (hj : jP ad) (l : Launch) (x1 : Int32) (x2 : Int32) (f : mM) (t : Int64) (r : Int32) (hf : q_X9_went x1 x2 f = some r) : Met l yX9_went wsX9_went ({ frames := 1, cells := 0, slots := 0, locals := 22 }) (va_Pc ([.ref (ad 0), .int x1, .int x2]) (pre D cy (wP ad cy) (xP ad sk sv) f t)) (va_Qi (fun (r2 : Int32) (u : mM × Int64) => r2 = r ∧ u = (f, t)) (atW D (wP ad cy)) (aP ad)) 0 0 (aP ad) := by
  refine Met.ofW (cc := cX9_went) (maxL := 3) (ret := (some .int)) (by decide) rfl ?_
  intro p e s m args below meth c s₁ B hml hv
  obtain ⟨rfl, hP, hK, hX0⟩ := hv
  have hl := lv_entry ([.ref (ad 0), .int x1, .int x2]) (n := 3) (Nat.le_of_ble_eq_true rfl)
  rw [lg_entry_eq]
  generalize (lg_sl ([.ref (ad 0), .int x1, .int x2]) ++ List.replicate (3 - (lg_sl ([.ref (ad 0), .int x1, .int x2])).length) Slot.unset).toArray = ls at hl ⊢
  have hlocks := B.notSynchronized
  exact b_X9_went ⟨B.exec, B.bytes, B.returns, hml, findClass_of_methodNamed B.named, atoms_spec (ws := wsX9_went) B.pre, hlocks, hK, hX0⟩ hj ⟨Nat.le_refl _, Nat.le_refl _⟩ x1 x2 f t r hf (fun H locs ls pc hd hP hS => W.iret B.exec B.bytes B.returns (fun t2 ht hW => ⟨⟨r, (f, t), rfl, ⟨rfl, rfl⟩, by show va_P D vwCl _ t2.heap; rw [ht]; exact hP⟩, hS.F ht⟩) hS.2.2 hd) s.heap [] ls hP va_S.rf hl
def q_X9_frost (N : Nat) (f : mM) : Option (Int32 × mM) := bi2 (q_X3_freeze N f) (fun y1 f2 => some (y1, f2))
set_option maxHeartbeats 4000000 in
set_option maxRecDepth 100000 in
theorem b_X9_frost (C0 : cX p s m args meth c cX9_frost 1 (some .int) RX9 wsX9_frost D cy (xP ad sk sv)) (hj : jP ad) (hR : 1 ≤ R.frames ∧ 22 ≤ R.locals) (N : Nat)  (f : mM) (t : Int64) (r : Int32) (fR : mM) (hf : q_X9_frost N f = some (r, fR)) (kr : ∀ (H : Heap) (locs : List Loc) (ls : Array Slot) (pc : Nat), decode cX9_frost pc = .ok (.ireturn, 1) → va_P D vwCl (wP ad cy fR t) H → va_S (aP ad) s.heap H locs → W p l e R s m args below meth c H locs 0 0 Q (F0 m pc ls [.int r])) (H : Heap) (locs : List Loc) (ls : Array Slot) (hP : va_P D vwCl (wP ad cy f t) H) (hS : va_S (aP ad) s.heap H locs) (hl : lv_has ls 1 [(0, .ref (ad 0))]) : W p l e R s m args below meth c H locs 0 0 Q (F0 m 0 ls []) := by
  obtain ⟨hx, hb, hr, hml, hown, hts, hlocks, hK, hX0⟩ := id C0
  have lk35 := hts (.fieldLink RX9 35 "PlankNine" "now" "LPlankNine$Now;") (List.mem_of_getElem? (i := 1) rfl)
  have hiX9 : ∀ w ∈ u_ws RX9 TX9 11, w ∈ wsX9_frost := fun w h => List.mem_cons_of_mem _ (List.mem_append_left _ (List.mem_append_right _ h))
  unfold q_X9_frost at hf
  refine lv_aload_n hx hb dX9_frost_0 rfl (lv_at hl 0 rfl) ?_
  refine va_get (D := D) (ci := 9) (v := .ref (ad 23)) (C := RX9) (T := TX9) (N := 11) hx hb hts hiX9 hown hK hP 0 rfl rfl 3 (by decide) lk35 (fun _ h9 => h9) rfl dX9_frost_1 ?_
  obtain ⟨y1, f2, hq3, hf⟩ := bi2_out hf
  refine cw_vi (As := []) (rest := []) ⟨hx, hb, hml, hown, hts⟩ xP_S hK hX0 hS hP (c_X3_freeze hj l N f t y1 f2 hq3) (cwV 0 hts gX9_frost_X3_freeze rfl rfl rfl (by decide +kernel) ⟨Nat.le_trans (Nat.le_of_ble_eq_true rfl) hR.1, Nat.le_trans (Nat.le_of_ble_eq_true rfl) hR.2⟩) (va_recv hK hP (ci := 3) (q0 := 23) rfl rfl) rfl hl.1 rfl (Nat.le_of_ble_eq_true rfl) ⟨Nat.zero_le _, Nat.zero_le _⟩ dX9_frost_4 (fun H locs hP hS => ?_)
  obtain ⟨rfl, rfl⟩ := Prod.mk.inj (Option.some.inj hf)
  exact kr H locs ls 7 dX9_frost_7 hP hS
set_option maxHeartbeats 4000000 in
set_option maxRecDepth 100000 in
theorem c_X9_frost (hj : jP ad) (l : Launch) (N : Nat)  (f : mM) (t : Int64) (r : Int32) (fR : mM) (hf : q_X9_frost N f = some (r, fR)) : Met l yX9_frost wsX9_frost ({ frames := 1, cells := 0, slots := 0, locals := 22 }) (va_Pc ([.ref (ad 0)]) (pre D cy (wP ad cy) (xP ad sk sv) f t)) (va_Qi (fun (r2 : Int32) (u : mM × Int64) => r2 = r ∧ u = (fR, t)) (atW D (wP ad cy)) (aP ad)) 0 0 (aP ad) := by
  refine Met.ofW (cc := cX9_frost) (maxL := 1) (ret := (some .int)) (by decide) rfl ?_
  intro p e s m args below meth c s₁ B hml hv
  obtain ⟨rfl, hP, hK, hX0⟩ := hv
  have hl := lv_entry ([.ref (ad 0)]) (n := 1) (Nat.le_of_ble_eq_true rfl)
  rw [lg_entry_eq]
  generalize (lg_sl ([.ref (ad 0)]) ++ List.replicate (1 - (lg_sl ([.ref (ad 0)])).length) Slot.unset).toArray = ls at hl ⊢
  have hlocks := B.notSynchronized
  exact b_X9_frost ⟨B.exec, B.bytes, B.returns, hml, findClass_of_methodNamed B.named, atoms_spec (ws := wsX9_frost) B.pre, hlocks, hK, hX0⟩ hj ⟨Nat.le_refl _, Nat.le_refl _⟩ N  f t r fR hf (fun H locs ls pc hd hP hS => W.iret B.exec B.bytes B.returns (fun t2 ht hW => ⟨⟨r, (fR, t), rfl, ⟨rfl, rfl⟩, by show va_P D vwCl _ t2.heap; rw [ht]; exact hP⟩, hS.F ht⟩) hS.2.2 hd) s.heap [] ls hP va_S.rf hl
def q_X9_cart (x1 : Int32) (f : mM) : Option (Int32 × mM) := bi (q_X2_isPlank x1 f) (fun y1 => if y1 = 0 then some ((-1), f) else gi x1 9 (sq (f 24 (Int32.toNatClampNeg x1)) (fun x2_4 => gi x1 9 (sq (st2 f 24 (Int32.toNatClampNeg x1) 9) (fun f6 => some (x2_4, f6))))))
set_option maxHeartbeats 4000000 in
set_option maxRecDepth 100000 in
theorem b_X9_cart (C0 : cX p s m args meth c cX9_cart 3 (some .int) RX9 wsX9_cart D cy (xP ad sk sv)) (hj : jP ad) (hR : 1 ≤ R.frames ∧ 21 ≤ R.locals) (x1 : Int32) (f : mM) (t : Int64) (r : Int32) (fR : mM) (hf : q_X9_cart x1 f = some (r, fR)) (kr : ∀ (H : Heap) (locs : List Loc) (ls : Array Slot) (pc : Nat), decode cX9_cart pc = .ok (.ireturn, 1) → va_P D vwCl (wP ad cy fR t) H → va_S (aP ad) s.heap H locs → W p l e R s m args below meth c H locs 0 0 Q (F0 m pc ls [.int r])) (H : Heap) (locs : List Loc) (ls : Array Slot) (hP : va_P D vwCl (wP ad cy f t) H) (hS : va_S (aP ad) s.heap H locs) (hl : lv_has ls 3 [(0, .ref (ad 0)), (1, .int x1)]) : W p l e R s m args below meth c H locs 0 0 Q (F0 m 0 ls []) := by
  obtain ⟨hx, hb, hr, hml, hown, hts, hlocks, hK, hX0⟩ := id C0
  have lk19 := hts (.fieldLink RX9 19 "PlankNine" "told" "LPlankNine$Marsh;") (List.mem_of_getElem? (i := 1) rfl)
  have hiX9 : ∀ w ∈ u_ws RX9 TX9 11, w ∈ wsX9_cart := fun w h => List.mem_cons_of_mem _ (List.mem_append_left _ (List.mem_append_left _ (List.mem_append_right _ h)))
  have lk35 := hts (.fieldLink RX9 35 "PlankNine" "now" "LPlankNine$Now;") (List.mem_of_getElem? (i := 2) rfl)
  have ln127 := nlF_43 (args := args) hX0
  have hiX3 : ∀ w ∈ u_ws RX3 TX3 4, w ∈ wsX9_cart := fun w h => List.mem_cons_of_mem _ (List.mem_append_left _ (List.mem_append_right _ h))
  unfold q_X9_cart at hf
  refine lv_aload_n hx hb dX9_cart_0 rfl (lv_at hl 0 rfl) ?_
  refine va_get (D := D) (ci := 9) (v := .ref (ad 3)) (C := RX9) (T := TX9) (N := 11) hx hb hts hiX9 hown hK hP 0 rfl rfl 1 (by decide) lk19 (fun _ h9 => h9) rfl dX9_cart_1 ?_
  refine lv_iload_n hx hb dX9_cart_4 rfl (lv_at hl 1 rfl) ?_
  obtain ⟨y1, hq2, hf⟩ := bi_out hf
  refine cw_vi (As := [.int x1]) (rest := []) ⟨hx, hb, hml, hown, hts⟩ xP_S hK hX0 hS hP (c_X2_isPlank hj l x1 f t y1 hq2) (cwV 1 hts gX9_cart_X2_isPlank rfl rfl rfl (by decide +kernel) ⟨Nat.le_trans (Nat.le_of_ble_eq_true rfl) hR.1, Nat.le_trans (Nat.le_of_ble_eq_true rfl) hR.2⟩) (va_recv hK hP (ci := 2) (q0 := 3) rfl rfl) rfl hl.1 rfl (Nat.le_of_ble_eq_true rfl) ⟨Nat.zero_le _, Nat.zero_le _⟩ dX9_cart_5 (fun H locs hP hS => ?_)
  refine lv_if_ne (tgt := 13) hx hb dX9_cart_8 (by decide) (fun c8 => ?_) (fun c8 => ?_)
  · have hf := itF hf c8
    refine lv_aload_n hx hb dX9_cart_13 rfl (lv_at hl 0 rfl) ?_
    refine va_get (D := D) (ci := 9) (v := .ref (ad 23)) (C := RX9) (T := TX9) (N := 11) hx hb hts hiX9 hown hK hP 0 rfl rfl 3 (by decide) lk35 (fun _ h9 => h9) rfl dX9_cart_14 ?_
    refine va_getN (D := D) (ci := 3) (v := .ref (ad 24)) (C := RX3) (T := TX3) (N := 4) hx hb hts hiX3 hown hK hP 23 rfl rfl 0 (by decide) ln127 (fun _ h9 => h9) rfl dX9_cart_17 ?_
    refine lv_iload_n hx hb dX9_cart_20 rfl (lv_at hl 1 rfl) ?_
    obtain ⟨hin3, hf⟩ := gi_out hf
    refine va_iald hx hb hK hP 24 1 rfl rfl hin3 dX9_cart_21 ?_
    obtain ⟨x2_4, ex2_4, hf⟩ := sq_out hf
    refine lv_nmi ex2_4 ?_
    refine lv_istore_n (lv' := [(2, .int x2_4), (0, .ref (ad 0)), (1, .int x1)]) hx hb dX9_cart_22 rfl hl (by decide) rfl (fun ls hl => ?_)
    refine lv_aload_n hx hb dX9_cart_23 rfl (lv_at hl 1 rfl) ?_
    refine va_get (D := D) (ci := 9) (v := .ref (ad 23)) (C := RX9) (T := TX9) (N := 11) hx hb hts hiX9 hown hK hP 0 rfl rfl 3 (by decide) lk35 (fun _ h9 => h9) rfl dX9_cart_24 ?_
    refine va_getN (D := D) (ci := 3) (v := .ref (ad 24)) (C := RX3) (T := TX3) (N := 4) hx hb hts hiX3 hown hK hP 23 rfl rfl 0 (by decide) ln127 (fun _ h9 => h9) rfl dX9_cart_27 ?_
    refine lv_iload_n hx hb dX9_cart_30 rfl (lv_at hl 2 rfl) ?_
    refine lv_bipush (v := 9) hx hb dX9_cart_31 (by decide) ?_
    obtain ⟨hin5, hf⟩ := gi_out hf
    obtain ⟨f6, ef6, hf⟩ := sq_out hf
    refine va_iast hx hb hK hP (dP hj f t) hS 24 1 rfl rfl hin5 dX9_cart_33 (fun H locs hP _ hS => ?_)
    have hP := sP_24 ef6 hP
    refine lv_iload_n hx hb dX9_cart_34 rfl (lv_at hl 0 rfl) ?_
    obtain ⟨rfl, rfl⟩ := Prod.mk.inj (Option.some.inj hf)
    exact kr H locs ls 35 dX9_cart_35 hP hS
  · have hf := itT hf c8
    refine lv_iconst (v := (-1)) hx hb dX9_cart_11 (by decide) ?_
    obtain ⟨rfl, rfl⟩ := Prod.mk.inj (Option.some.inj hf)
    exact kr H locs ls 12 dX9_cart_12 hP hS
set_option maxHeartbeats 4000000 in
set_option maxRecDepth 100000 in
theorem c_X9_cart (hj : jP ad) (l : Launch) (x1 : Int32) (f : mM) (t : Int64) (r : Int32) (fR : mM) (hf : q_X9_cart x1 f = some (r, fR)) : Met l yX9_cart wsX9_cart ({ frames := 1, cells := 0, slots := 0, locals := 21 }) (va_Pc ([.ref (ad 0), .int x1]) (pre D cy (wP ad cy) (xP ad sk sv) f t)) (va_Qi (fun (r2 : Int32) (u : mM × Int64) => r2 = r ∧ u = (fR, t)) (atW D (wP ad cy)) (aP ad)) 0 0 (aP ad) := by
  refine Met.ofW (cc := cX9_cart) (maxL := 3) (ret := (some .int)) (by decide) rfl ?_
  intro p e s m args below meth c s₁ B hml hv
  obtain ⟨rfl, hP, hK, hX0⟩ := hv
  have hl := lv_entry ([.ref (ad 0), .int x1]) (n := 3) (Nat.le_of_ble_eq_true rfl)
  rw [lg_entry_eq]
  generalize (lg_sl ([.ref (ad 0), .int x1]) ++ List.replicate (3 - (lg_sl ([.ref (ad 0), .int x1])).length) Slot.unset).toArray = ls at hl ⊢
  have hlocks := B.notSynchronized
  exact b_X9_cart ⟨B.exec, B.bytes, B.returns, hml, findClass_of_methodNamed B.named, atoms_spec (ws := wsX9_cart) B.pre, hlocks, hK, hX0⟩ hj ⟨Nat.le_refl _, Nat.le_refl _⟩ x1 f t r fR hf (fun H locs ls pc hd hP hS => W.iret B.exec B.bytes B.returns (fun t2 ht hW => ⟨⟨r, (fR, t), rfl, ⟨rfl, rfl⟩, by show va_P D vwCl _ t2.heap; rw [ht]; exact hP⟩, hS.F ht⟩) hS.2.2 hd) s.heap [] ls hP va_S.rf hl
def q_X9_exchange (x1 : Int32) (x2 : Int32) (f : mM) : Option (Int32 × mM) := bi (q_X2_isPlank x1 f) (fun y1 => if y1 = 0 then some ((-1), f) else bi (q_X2_isPlank x2 f) (fun y3 => if y3 = 0 then some ((-1), f) else if x1 = x2 then some ((-1), f) else bi (q_X3_swap x1 x2 f) (fun f5 => some (1, f5))))
set_option maxHeartbeats 4000000 in
set_option maxRecDepth 100000 in
theorem b_X9_exchange (C0 : cX p s m args meth c cX9_exchange 3 (some .int) RX9 wsX9_exchange D cy (xP ad sk sv)) (hj : jP ad) (hR : 1 ≤ R.frames ∧ 23 ≤ R.locals) (x1 : Int32) (x2 : Int32) (f : mM) (t : Int64) (r : Int32) (fR : mM) (hf : q_X9_exchange x1 x2 f = some (r, fR)) (kr : ∀ (H : Heap) (locs : List Loc) (ls : Array Slot) (pc : Nat), decode cX9_exchange pc = .ok (.ireturn, 1) → va_P D vwCl (wP ad cy fR t) H → va_S (aP ad) s.heap H locs → W p l e R s m args below meth c H locs 0 0 Q (F0 m pc ls [.int r])) (H : Heap) (locs : List Loc) (ls : Array Slot) (hP : va_P D vwCl (wP ad cy f t) H) (hS : va_S (aP ad) s.heap H locs) (hl : lv_has ls 3 [(0, .ref (ad 0)), (1, .int x1), (2, .int x2)]) : W p l e R s m args below meth c H locs 0 0 Q (F0 m 0 ls []) := by
  obtain ⟨hx, hb, hr, hml, hown, hts, hlocks, hK, hX0⟩ := id C0
  have lk19 := hts (.fieldLink RX9 19 "PlankNine" "told" "LPlankNine$Marsh;") (List.mem_of_getElem? (i := 1) rfl)
  have hiX9 : ∀ w ∈ u_ws RX9 TX9 11, w ∈ wsX9_exchange := fun w h => List.mem_cons_of_mem _ (List.mem_append_left _ (List.mem_append_left _ (List.mem_append_right _ h)))
  have lk35 := hts (.fieldLink RX9 35 "PlankNine" "now" "LPlankNine$Now;") (List.mem_of_getElem? (i := 2) rfl)
  unfold q_X9_exchange at hf
  refine lv_aload_n hx hb dX9_exchange_0 rfl (lv_at hl 0 rfl) ?_
  refine va_get (D := D) (ci := 9) (v := .ref (ad 3)) (C := RX9) (T := TX9) (N := 11) hx hb hts hiX9 hown hK hP 0 rfl rfl 1 (by decide) lk19 (fun _ h9 => h9) rfl dX9_exchange_1 ?_
  refine lv_iload_n hx hb dX9_exchange_4 rfl (lv_at hl 1 rfl) ?_
  obtain ⟨y1, hq2, hf⟩ := bi_out hf
  refine cw_vi (As := [.int x1]) (rest := []) ⟨hx, hb, hml, hown, hts⟩ xP_S hK hX0 hS hP (c_X2_isPlank hj l x1 f t y1 hq2) (cwV 1 hts gX9_exchange_X2_isPlank rfl rfl rfl (by decide +kernel) ⟨Nat.le_trans (Nat.le_of_ble_eq_true rfl) hR.1, Nat.le_trans (Nat.le_of_ble_eq_true rfl) hR.2⟩) (va_recv hK hP (ci := 2) (q0 := 3) rfl rfl) rfl hl.1 rfl (Nat.le_of_ble_eq_true rfl) ⟨Nat.zero_le _, Nat.zero_le _⟩ dX9_exchange_5 (fun H locs hP hS => ?_)
  refine lv_if_eq (tgt := 27) hx hb dX9_exchange_8 (by decide) (fun c8 => ?_) (fun c8 => ?_)
  · have hf := itT hf c8
    refine lv_iconst (v := (-1)) hx hb dX9_exchange_27 (by decide) ?_
    obtain ⟨rfl, rfl⟩ := Prod.mk.inj (Option.some.inj hf)
    exact kr H locs ls 28 dX9_exchange_28 hP hS
  · have hf := itF hf c8
    refine lv_aload_n hx hb dX9_exchange_11 rfl (lv_at hl 0 rfl) ?_
    refine va_get (D := D) (ci := 9) (v := .ref (ad 3)) (C := RX9) (T := TX9) (N := 11) hx hb hts hiX9 hown hK hP 0 rfl rfl 1 (by decide) lk19 (fun _ h9 => h9) rfl dX9_exchange_12 ?_
    refine lv_iload_n hx hb dX9_exchange_15 rfl (lv_at hl 2 rfl) ?_
    obtain ⟨y3, hq4, hf⟩ := bi_out hf
    refine cw_vi (As := [.int x2]) (rest := []) ⟨hx, hb, hml, hown, hts⟩ xP_S hK hX0 hS hP (c_X2_isPlank hj l x2 f t y3 hq4) (cwV 1 hts gX9_exchange_X2_isPlank rfl rfl rfl (by decide +kernel) ⟨Nat.le_trans (Nat.le_of_ble_eq_true rfl) hR.1, Nat.le_trans (Nat.le_of_ble_eq_true rfl) hR.2⟩) (va_recv hK hP (ci := 2) (q0 := 3) rfl rfl) rfl hl.1 rfl (Nat.le_of_ble_eq_true rfl) ⟨Nat.zero_le _, Nat.zero_le _⟩ dX9_exchange_16 (fun H locs hP hS => ?_)
    refine lv_if_eq (tgt := 27) hx hb dX9_exchange_19 (by decide) (fun c19 => ?_) (fun c19 => ?_)
    · have hf := itT hf c19
      refine lv_iconst (v := (-1)) hx hb dX9_exchange_27 (by decide) ?_
      obtain ⟨rfl, rfl⟩ := Prod.mk.inj (Option.some.inj hf)
      exact kr H locs ls 28 dX9_exchange_28 hP hS
    · have hf := itF hf c19
      refine lv_iload_n hx hb dX9_exchange_22 rfl (lv_at hl 1 rfl) ?_
      refine lv_iload_n hx hb dX9_exchange_23 rfl (lv_at hl 2 rfl) ?_
      refine lv_icmp_ne (tgt := 29) hx hb dX9_exchange_24 (by decide) (fun c24 => ?_) (fun c24 => ?_)
      · have hf := itF hf c24
        refine lv_aload_n hx hb dX9_exchange_29 rfl (lv_at hl 0 rfl) ?_
        refine va_get (D := D) (ci := 9) (v := .ref (ad 23)) (C := RX9) (T := TX9) (N := 11) hx hb hts hiX9 hown hK hP 0 rfl rfl 3 (by decide) lk35 (fun _ h9 => h9) rfl dX9_exchange_30 ?_
        refine lv_iload_n hx hb dX9_exchange_33 rfl (lv_at hl 1 rfl) ?_
        refine lv_iload_n hx hb dX9_exchange_34 rfl (lv_at hl 2 rfl) ?_
        obtain ⟨f5, hq6, hf⟩ := bi_out hf
        refine cw_vv (As := [.int x1, .int x2]) (rest := []) ⟨hx, hb, hml, hown, hts⟩ xP_S hK hX0 hS hP (c_X3_swap hj l x1 x2 f t f5 hq6) (cwV 2 hts gX9_exchange_X3_swap rfl rfl rfl (by decide +kernel) ⟨Nat.le_trans (Nat.le_of_ble_eq_true rfl) hR.1, Nat.le_trans (Nat.le_of_ble_eq_true rfl) hR.2⟩) (va_recv hK hP (ci := 3) (q0 := 23) rfl rfl) rfl hl.1 rfl (Nat.le_of_ble_eq_true rfl) ⟨Nat.zero_le _, Nat.zero_le _⟩ dX9_exchange_35 (fun H locs hP hS => ?_)
        refine lv_iconst (v := 1) hx hb dX9_exchange_38 (by decide) ?_
        obtain ⟨rfl, rfl⟩ := Prod.mk.inj (Option.some.inj hf)
        exact kr H locs ls 39 dX9_exchange_39 hP hS
      · have hf := itT hf c24
        refine lv_iconst (v := (-1)) hx hb dX9_exchange_27 (by decide) ?_
        obtain ⟨rfl, rfl⟩ := Prod.mk.inj (Option.some.inj hf)
        exact kr H locs ls 28 dX9_exchange_28 hP hS
set_option maxHeartbeats 4000000 in
set_option maxRecDepth 100000 in
theorem c_X9_exchange (hj : jP ad) (l : Launch) (x1 : Int32) (x2 : Int32) (f : mM) (t : Int64) (r : Int32) (fR : mM) (hf : q_X9_exchange x1 x2 f = some (r, fR)) : Met l yX9_exchange wsX9_exchange ({ frames := 1, cells := 0, slots := 0, locals := 23 }) (va_Pc ([.ref (ad 0), .int x1, .int x2]) (pre D cy (wP ad cy) (xP ad sk sv) f t)) (va_Qi (fun (r2 : Int32) (u : mM × Int64) => r2 = r ∧ u = (fR, t)) (atW D (wP ad cy)) (aP ad)) 0 0 (aP ad) := by
  refine Met.ofW (cc := cX9_exchange) (maxL := 3) (ret := (some .int)) (by decide) rfl ?_
  intro p e s m args below meth c s₁ B hml hv
  obtain ⟨rfl, hP, hK, hX0⟩ := hv
  have hl := lv_entry ([.ref (ad 0), .int x1, .int x2]) (n := 3) (Nat.le_of_ble_eq_true rfl)
  rw [lg_entry_eq]
  generalize (lg_sl ([.ref (ad 0), .int x1, .int x2]) ++ List.replicate (3 - (lg_sl ([.ref (ad 0), .int x1, .int x2])).length) Slot.unset).toArray = ls at hl ⊢
  have hlocks := B.notSynchronized
  exact b_X9_exchange ⟨B.exec, B.bytes, B.returns, hml, findClass_of_methodNamed B.named, atoms_spec (ws := wsX9_exchange) B.pre, hlocks, hK, hX0⟩ hj ⟨Nat.le_refl _, Nat.le_refl _⟩ x1 x2 f t r fR hf (fun H locs ls pc hd hP hS => W.iret B.exec B.bytes B.returns (fun t2 ht hW => ⟨⟨r, (fR, t), rfl, ⟨rfl, rfl⟩, by show va_P D vwCl _ t2.heap; rw [ht]; exact hP⟩, hS.F ht⟩) hS.2.2 hd) s.heap [] ls hP va_S.rf hl
def lp_X9_forgetImages_2 (N : Nat)  : Nat → Int32 → mM → Option (mM)
  | 0, _, _ => none
  | n + 1, x1, f => if 2 ≤ x1 then some f else gi x1 2 (sq (st2 f 36 (Int32.toNatClampNeg x1) (vp_nar .boolean 0)) (fun f2 => sq (x1 + 1) (fun x1_3 => lp_X9_forgetImages_2 N n x1_3 f2)))
theorem lp_X9_forgetImages_2_s (N : Nat)  (n : Nat) (x1 : Int32) (f : mM) : lp_X9_forgetImages_2 N (n + 1) x1 f = (if 2 ≤ x1 then some f else gi x1 2 (sq (st2 f 36 (Int32.toNatClampNeg x1) (vp_nar .boolean 0)) (fun f2 => sq (x1 + 1) (fun x1_3 => lp_X9_forgetImages_2 N n x1_3 f2)))) := rfl
set_option maxHeartbeats 4000000 in
set_option maxRecDepth 100000 in
theorem lp_X9_forgetImages_2_w (C0 : cX p s m args meth c cX9_forgetImages 2 none RX9 wsX9_forgetImages D cy (xP ad sk sv)) (hj : jP ad) (hR : 0 ≤ R.frames ∧ 0 ≤ R.locals) (N : Nat)  (t : Int64) (fR : mM) (kx20 : ∀ (H : Heap) (locs : List Loc) (ls : Array Slot), va_P D vwCl (wP ad cy fR t) H → va_S (aP ad) s.heap H locs → lv_has ls 2 [] → W p l e R s m args below meth c H locs 0 0 Q (F0 m 20 ls [])) : ∀ (n : Nat) (x1 : Int32) (f : mM), lp_X9_forgetImages_2 N n x1 f = some fR → ∀ (H : Heap) (locs : List Loc) (ls : Array Slot), va_P D vwCl (wP ad cy f t) H → va_S (aP ad) s.heap H locs → lv_has ls 2 [(0, .ref (ad 0)), (1, .int x1)] → W p l e R s m args below meth c H locs 0 0 Q (F0 m 2 ls []) := by
  obtain ⟨hx, hb, hr, hml, hown, hts, hlocks, hK, hX0⟩ := id C0
  have lk43 := hts (.fieldLink RX9 43 "PlankNine" "kept" "[Z") (List.mem_of_getElem? (i := 1) rfl)
  have hiX9 : ∀ w ∈ u_ws RX9 TX9 11, w ∈ wsX9_forgetImages := fun w h => List.mem_cons_of_mem _ (List.mem_append_right _ h)
  intro n
  induction n with
  | zero =>
    intro x1 f hf
    exact no_none hf
  | succ n ih =>
    intro x1 f hf H locs ls hP hS hl
    have hf := (lp_X9_forgetImages_2_s N n x1 f).symm.trans hf
    refine lv_iload_n hx hb dX9_forgetImages_2 rfl (lv_at hl 1 rfl) ?_
    refine lv_iconst (v := 2) hx hb dX9_forgetImages_3 (by decide) ?_
    refine lv_icmp_ge (tgt := 20) hx hb dX9_forgetImages_4 (by decide) (fun c4 => ?_) (fun c4 => ?_)
    · have hf := itT hf c4
      obtain rfl := Option.some.inj hf
      exact kx20 H locs ls hP hS (lv_sub hl [] rfl)
    · have hf := itF hf c4
      refine lv_aload_n hx hb dX9_forgetImages_7 rfl (lv_at hl 0 rfl) ?_
      refine va_get (D := D) (ci := 9) (v := .ref (ad 36)) (C := RX9) (T := TX9) (N := 11) hx hb hts hiX9 hown hK hP 0 rfl rfl 5 (by decide) lk43 (fun _ h9 => h9) rfl dX9_forgetImages_8 ?_
      refine lv_iload_n hx hb dX9_forgetImages_11 rfl (lv_at hl 1 rfl) ?_
      refine lv_iconst (v := 0) hx hb dX9_forgetImages_12 (by decide) ?_
      obtain ⟨hin1, hf⟩ := gi_out hf
      obtain ⟨f2, ef2, hf⟩ := sq_out hf
      refine va_zast hx hb hK hP (dP hj f t) hS 36 2 rfl rfl hin1 dX9_forgetImages_13 (fun H locs hP _ hS => ?_)
      have hP := sP_36 ef2 hP
      obtain ⟨x1_3, ex1_3, hf⟩ := sq_out hf
      refine lv_iinc (v := x1_3) (lv' := [(1, .int x1_3), (0, .ref (ad 0))]) hx hb dX9_forgetImages_14 hl (k := 1) rfl (by rw [ex1_3]; rfl) (by decide) rfl (fun ls hl => ?_)
      refine lv_goto (tgt := 2) hx hb dX9_forgetImages_17 (by decide) ?_
      exact ih x1_3 f2 hf H locs ls hP hS (lv_sub hl [1, 0] rfl)
def q_X9_forgetImages (N : Nat) (f : mM) : Option (mM) := bi (lp_X9_forgetImages_2 N N 0 f) (fun f4 => some f4)
set_option maxHeartbeats 4000000 in
set_option maxRecDepth 100000 in
theorem b_X9_forgetImages (C0 : cX p s m args meth c cX9_forgetImages 2 none RX9 wsX9_forgetImages D cy (xP ad sk sv)) (hj : jP ad) (hR : 0 ≤ R.frames ∧ 0 ≤ R.locals) (N : Nat)  (f : mM) (t : Int64) (fR : mM) (hf : q_X9_forgetImages N f = some fR) (kr : ∀ (H : Heap) (locs : List Loc) (ls : Array Slot) (pc : Nat), decode cX9_forgetImages pc = .ok (.return_, 1) → va_P D vwCl (wP ad cy fR t) H → va_S (aP ad) s.heap H locs → W p l e R s m args below meth c H locs 0 0 Q (F0 m pc ls [])) (H : Heap) (locs : List Loc) (ls : Array Slot) (hP : va_P D vwCl (wP ad cy f t) H) (hS : va_S (aP ad) s.heap H locs) (hl : lv_has ls 2 [(0, .ref (ad 0))]) : W p l e R s m args below meth c H locs 0 0 Q (F0 m 0 ls []) := by
  obtain ⟨hx, hb, hr, hml, hown, hts, hlocks, hK, hX0⟩ := id C0
  unfold q_X9_forgetImages at hf
  refine lv_iconst (v := 0) hx hb dX9_forgetImages_0 (by decide) ?_
  refine lv_istore_n (lv' := [(1, .int 0), (0, .ref (ad 0))]) hx hb dX9_forgetImages_1 rfl hl (by decide) rfl (fun ls hl => ?_)
  obtain ⟨f4, hlp5, hf⟩ := bi_out hf
  refine lp_X9_forgetImages_2_w C0 hj hR N t f4 ?_ N 0 f hlp5 H locs ls hP hS (lv_sub hl [1, 0] rfl)
  intro H locs ls hP hS hl
  obtain rfl := Option.some.inj hf
  exact kr H locs ls 20 dX9_forgetImages_20 hP hS
set_option maxHeartbeats 4000000 in
set_option maxRecDepth 100000 in
theorem c_X9_forgetImages (hj : jP ad) (l : Launch) (N : Nat)  (f : mM) (t : Int64) (fR : mM) (hf : q_X9_forgetImages N f = some fR) : Met l yX9_forgetImages wsX9_forgetImages ({ frames := 0, cells := 0, slots := 0, locals := 0 }) (va_Pc ([.ref (ad 0)]) (pre D cy (wP ad cy) (xP ad sk sv) f t)) (va_Qv (fun (u : mM × Int64) => u = (fR, t)) (atW D (wP ad cy)) (aP ad)) 0 0 (aP ad) := by
  refine Met.ofW (cc := cX9_forgetImages) (maxL := 2) (ret := none) (by decide) rfl ?_
  intro p e s m args below meth c s₁ B hml hv
  obtain ⟨rfl, hP, hK, hX0⟩ := hv
  have hl := lv_entry ([.ref (ad 0)]) (n := 2) (Nat.le_of_ble_eq_true rfl)
  rw [lg_entry_eq]
  generalize (lg_sl ([.ref (ad 0)]) ++ List.replicate (2 - (lg_sl ([.ref (ad 0)])).length) Slot.unset).toArray = ls at hl ⊢
  have hlocks := B.notSynchronized
  exact b_X9_forgetImages ⟨B.exec, B.bytes, B.returns, hml, findClass_of_methodNamed B.named, atoms_spec (ws := wsX9_forgetImages) B.pre, hlocks, hK, hX0⟩ hj ⟨Nat.le_refl _, Nat.le_refl _⟩ N  f t fR hf (fun H locs ls pc hd hP hS => W.vret B.exec B.bytes B.returns (fun t2 ht hW => ⟨⟨(fR, t), rfl, rfl, by show va_P D vwCl _ t2.heap; rw [ht]; exact hP⟩, hS.F ht⟩) hS.2.2 hd) s.heap [] ls hP va_S.rf hl
def q_X9_trace (t : Int64) : Option (Int64) := some t
set_option maxHeartbeats 4000000 in
set_option maxRecDepth 100000 in
theorem b_X9_trace (C0 : cX p s m args meth c cX9_trace 1 (some .long) RX9 wsX9_trace D cy (xP ad sk sv)) (hj : jP ad) (hR : 0 ≤ R.frames ∧ 0 ≤ R.locals)  (f : mM) (t : Int64) (r : Int64) (hf : q_X9_trace t = some r) (kr : ∀ (H : Heap) (locs : List Loc) (ls : Array Slot) (pc : Nat), decode cX9_trace pc = .ok (.lreturn, 1) → va_P D vwCl (wP ad cy f t) H → va_S (aP ad) s.heap H locs → W p l e R s m args below meth c H locs 0 0 Q (F0 m pc ls [.long r])) (H : Heap) (locs : List Loc) (ls : Array Slot) (hP : va_P D vwCl (wP ad cy f t) H) (hS : va_S (aP ad) s.heap H locs) (hl : lv_has ls 1 [(0, .ref (ad 0))]) : W p l e R s m args below meth c H locs 0 0 Q (F0 m 0 ls []) := by
  obtain ⟨hx, hb, hr, hml, hown, hts, hlocks, hK, hX0⟩ := id C0
  have lk80 := hts (.fieldLink RX9 80 "PlankNine" "kinds" "LPlankNine$Kinds;") (List.mem_of_getElem? (i := 1) rfl)
  have hiX9 : ∀ w ∈ u_ws RX9 TX9 11, w ∈ wsX9_trace := fun w h => List.mem_cons_of_mem _ (List.mem_append_left _ (List.mem_append_right _ h))
  have ln262 := nlF_52 (args := args) hX0
  have hiX1 : ∀ w ∈ u_ws RX1 TX1 3, w ∈ wsX9_trace := fun w h => List.mem_cons_of_mem _ (List.mem_append_right _ h)
  unfold q_X9_trace at hf
  refine lv_aload_n hx hb dX9_trace_0 rfl (lv_at hl 0 rfl) ?_
  refine va_get (D := D) (ci := 9) (v := .ref (ad 43)) (C := RX9) (T := TX9) (N := 11) hx hb hts hiX9 hown hK hP 0 rfl rfl 10 (by decide) lk80 (fun _ h9 => h9) rfl dX9_trace_1 ?_
  refine va_getN (D := D) (ci := 1) (v := .long t) (C := RX1) (T := TX1) (N := 3) hx hb hts hiX1 hown hK hP 43 rfl rfl 2 (by decide) ln262 (fun _ h9 => h9) rfl dX9_trace_4 ?_
  obtain rfl := Option.some.inj hf
  exact kr H locs ls 7 dX9_trace_7 hP hS
set_option maxHeartbeats 4000000 in
set_option maxRecDepth 100000 in
theorem c_X9_trace (hj : jP ad) (l : Launch)  (f : mM) (t : Int64) (r : Int64) (hf : q_X9_trace t = some r) : Met l yX9_trace wsX9_trace ({ frames := 0, cells := 0, slots := 0, locals := 0 }) (va_Pc ([.ref (ad 0)]) (pre D cy (wP ad cy) (xP ad sk sv) f t)) (va_Ql (fun (r2 : Int64) (u : mM × Int64) => r2 = r ∧ u = (f, t)) (atW D (wP ad cy)) (aP ad)) 0 0 (aP ad) := by
  refine Met.ofW (cc := cX9_trace) (maxL := 1) (ret := (some .long)) (by decide) rfl ?_
  intro p e s m args below meth c s₁ B hml hv
  obtain ⟨rfl, hP, hK, hX0⟩ := hv
  have hl := lv_entry ([.ref (ad 0)]) (n := 1) (Nat.le_of_ble_eq_true rfl)
  rw [lg_entry_eq]
  generalize (lg_sl ([.ref (ad 0)]) ++ List.replicate (1 - (lg_sl ([.ref (ad 0)])).length) Slot.unset).toArray = ls at hl ⊢
  have hlocks := B.notSynchronized
  exact b_X9_trace ⟨B.exec, B.bytes, B.returns, hml, findClass_of_methodNamed B.named, atoms_spec (ws := wsX9_trace) B.pre, hlocks, hK, hX0⟩ hj ⟨Nat.le_refl _, Nat.le_refl _⟩  f t r hf (fun H locs ls pc hd hP hS => W.lret B.exec B.bytes B.returns (fun t2 ht hW => ⟨⟨r, (f, t), rfl, ⟨rfl, rfl⟩, by show va_P D vwCl _ t2.heap; rw [ht]; exact hP⟩, hS.F ht⟩) hS.2.2 hd) s.heap [] ls hP va_S.rf hl
def q_X9_count (N : Nat) (x1 : Int32) (f : mM) : Option (Int32) := if x1 = 0 then some (f 3 0) else if x1 = 1 then some (f 3 1) else if x1 = 2 then some (f 3 2) else if x1 = 3 then some (f 3 3) else if x1 = 4 then some (f 23 3) else if x1 = 5 then bi (q_X3_borneByAll N f) (fun y1 => some y1) else if x1 = 6 then some (f 1 1) else some (-1)
set_option maxHeartbeats 4000000 in
set_option maxRecDepth 100000 in
theorem b_X9_count (C0 : cX p s m args meth c cX9_count 2 (some .int) RX9 wsX9_count D cy (xP ad sk sv)) (hj : jP ad) (hR : 1 ≤ R.frames ∧ 22 ≤ R.locals) (N : Nat) (x1 : Int32) (f : mM) (t : Int64) (r : Int32) (hf : q_X9_count N x1 f = some r) (kr : ∀ (H : Heap) (locs : List Loc) (ls : Array Slot) (pc : Nat), decode cX9_count pc = .ok (.ireturn, 1) → va_P D vwCl (wP ad cy f t) H → va_S (aP ad) s.heap H locs → W p l e R s m args below meth c H locs 0 0 Q (F0 m pc ls [.int r])) (H : Heap) (locs : List Loc) (ls : Array Slot) (hP : va_P D vwCl (wP ad cy f t) H) (hS : va_S (aP ad) s.heap H locs) (hl : lv_has ls 2 [(0, .ref (ad 0)), (1, .int x1)]) : W p l e R s m args below meth c H locs 0 0 Q (F0 m 0 ls []) := by
  obtain ⟨hx, hb, hr, hml, hown, hts, hlocks, hK, hX0⟩ := id C0
  have lk19 := hts (.fieldLink RX9 19 "PlankNine" "told" "LPlankNine$Marsh;") (List.mem_of_getElem? (i := 1) rfl)
  have hiX9 : ∀ w ∈ u_ws RX9 TX9 11, w ∈ wsX9_count := fun w h => List.mem_cons_of_mem _ (List.mem_append_left _ (List.mem_append_left _ (List.mem_append_left _ (List.mem_append_right _ h))))
  have ln250 := nlF_5 (args := args) hX0
  have hiX2 : ∀ w ∈ u_ws RX2 TX2 12, w ∈ wsX9_count := fun w h => List.mem_cons_of_mem _ (List.mem_append_left _ (List.mem_append_left _ (List.mem_append_right _ h)))
  have ln209 := nlF_12 (args := args) hX0
  have ln253 := nlF_15 (args := args) hX0
  have ln256 := nlF_19 (args := args) hX0
  have lk35 := hts (.fieldLink RX9 35 "PlankNine" "now" "LPlankNine$Now;") (List.mem_of_getElem? (i := 2) rfl)
  have ln176 := nlF_47 (args := args) hX0
  have hiX3 : ∀ w ∈ u_ws RX3 TX3 4, w ∈ wsX9_count := fun w h => List.mem_cons_of_mem _ (List.mem_append_left _ (List.mem_append_right _ h))
  have lk12 := hts (.fieldLink RX9 12 "PlankNine" "text" "LPlankNine$Text;") (List.mem_of_getElem? (i := 3) rfl)
  have ln96 := nlF_0 (args := args) hX0
  have hiX7 : ∀ w ∈ u_ws RX7 TX7 2, w ∈ wsX9_count := fun w h => List.mem_cons_of_mem _ (List.mem_append_right _ h)
  unfold q_X9_count at hf
  refine lv_iload_n hx hb dX9_count_0 rfl (lv_at hl 1 rfl) ?_
  by_cases c1_0 : x1 = 0
  · have hf := itT hf c1_0
    refine lv_tableIn (tgt := 44) hx hb dX9_count_1 (by rw [c1_0]; decide) (by rw [c1_0]; decide) (by rw [c1_0]; rfl) (by decide) ?_
    refine lv_aload_n hx hb dX9_count_44 rfl (lv_at hl 0 rfl) ?_
    refine va_get (D := D) (ci := 9) (v := .ref (ad 3)) (C := RX9) (T := TX9) (N := 11) hx hb hts hiX9 hown hK hP 0 rfl rfl 1 (by decide) lk19 (fun _ h9 => h9) rfl dX9_count_45 ?_
    refine va_getN (D := D) (ci := 2) (v := .int (f 3 0)) (C := RX2) (T := TX2) (N := 12) hx hb hts hiX2 hown hK hP 3 rfl rfl 0 (by decide) ln250 (fun _ h9 => h9) rfl dX9_count_48 ?_
    obtain rfl := Option.some.inj hf
    exact kr H locs ls 51 dX9_count_51 hP hS
  have hf := itF hf c1_0
  by_cases c1_1 : x1 = 1
  · have hf := itT hf c1_1
    refine lv_tableIn (tgt := 52) hx hb dX9_count_1 (by rw [c1_1]; decide) (by rw [c1_1]; decide) (by rw [c1_1]; rfl) (by decide) ?_
    refine lv_aload_n hx hb dX9_count_52 rfl (lv_at hl 0 rfl) ?_
    refine va_get (D := D) (ci := 9) (v := .ref (ad 3)) (C := RX9) (T := TX9) (N := 11) hx hb hts hiX9 hown hK hP 0 rfl rfl 1 (by decide) lk19 (fun _ h9 => h9) rfl dX9_count_53 ?_
    refine va_getN (D := D) (ci := 2) (v := .int (f 3 1)) (C := RX2) (T := TX2) (N := 12) hx hb hts hiX2 hown hK hP 3 rfl rfl 1 (by decide) ln209 (fun _ h9 => h9) rfl dX9_count_56 ?_
    obtain rfl := Option.some.inj hf
    exact kr H locs ls 59 dX9_count_59 hP hS
  have hf := itF hf c1_1
  by_cases c1_2 : x1 = 2
  · have hf := itT hf c1_2
    refine lv_tableIn (tgt := 60) hx hb dX9_count_1 (by rw [c1_2]; decide) (by rw [c1_2]; decide) (by rw [c1_2]; rfl) (by decide) ?_
    refine lv_aload_n hx hb dX9_count_60 rfl (lv_at hl 0 rfl) ?_
    refine va_get (D := D) (ci := 9) (v := .ref (ad 3)) (C := RX9) (T := TX9) (N := 11) hx hb hts hiX9 hown hK hP 0 rfl rfl 1 (by decide) lk19 (fun _ h9 => h9) rfl dX9_count_61 ?_
    refine va_getN (D := D) (ci := 2) (v := .int (f 3 2)) (C := RX2) (T := TX2) (N := 12) hx hb hts hiX2 hown hK hP 3 rfl rfl 2 (by decide) ln253 (fun _ h9 => h9) rfl dX9_count_64 ?_
    obtain rfl := Option.some.inj hf
    exact kr H locs ls 67 dX9_count_67 hP hS
  have hf := itF hf c1_2
  by_cases c1_3 : x1 = 3
  · have hf := itT hf c1_3
    refine lv_tableIn (tgt := 68) hx hb dX9_count_1 (by rw [c1_3]; decide) (by rw [c1_3]; decide) (by rw [c1_3]; rfl) (by decide) ?_
    refine lv_aload_n hx hb dX9_count_68 rfl (lv_at hl 0 rfl) ?_
    refine va_get (D := D) (ci := 9) (v := .ref (ad 3)) (C := RX9) (T := TX9) (N := 11) hx hb hts hiX9 hown hK hP 0 rfl rfl 1 (by decide) lk19 (fun _ h9 => h9) rfl dX9_count_69 ?_
    refine va_getN (D := D) (ci := 2) (v := .int (f 3 3)) (C := RX2) (T := TX2) (N := 12) hx hb hts hiX2 hown hK hP 3 rfl rfl 3 (by decide) ln256 (fun _ h9 => h9) rfl dX9_count_72 ?_
    obtain rfl := Option.some.inj hf
    exact kr H locs ls 75 dX9_count_75 hP hS
  have hf := itF hf c1_3
  by_cases c1_4 : x1 = 4
  · have hf := itT hf c1_4
    refine lv_tableIn (tgt := 76) hx hb dX9_count_1 (by rw [c1_4]; decide) (by rw [c1_4]; decide) (by rw [c1_4]; rfl) (by decide) ?_
    refine lv_aload_n hx hb dX9_count_76 rfl (lv_at hl 0 rfl) ?_
    refine va_get (D := D) (ci := 9) (v := .ref (ad 23)) (C := RX9) (T := TX9) (N := 11) hx hb hts hiX9 hown hK hP 0 rfl rfl 3 (by decide) lk35 (fun _ h9 => h9) rfl dX9_count_77 ?_
    refine va_getN (D := D) (ci := 3) (v := .int (f 23 3)) (C := RX3) (T := TX3) (N := 4) hx hb hts hiX3 hown hK hP 23 rfl rfl 3 (by decide) ln176 (fun _ h9 => h9) rfl dX9_count_80 ?_
    obtain rfl := Option.some.inj hf
    exact kr H locs ls 83 dX9_count_83 hP hS
  have hf := itF hf c1_4
  by_cases c1_5 : x1 = 5
  · have hf := itT hf c1_5
    refine lv_tableIn (tgt := 84) hx hb dX9_count_1 (by rw [c1_5]; decide) (by rw [c1_5]; decide) (by rw [c1_5]; rfl) (by decide) ?_
    refine lv_aload_n hx hb dX9_count_84 rfl (lv_at hl 0 rfl) ?_
    refine va_get (D := D) (ci := 9) (v := .ref (ad 23)) (C := RX9) (T := TX9) (N := 11) hx hb hts hiX9 hown hK hP 0 rfl rfl 3 (by decide) lk35 (fun _ h9 => h9) rfl dX9_count_85 ?_
    obtain ⟨y1, hq2, hf⟩ := bi_out hf
    refine cw_vi (As := []) (rest := []) ⟨hx, hb, hml, hown, hts⟩ xP_S hK hX0 hS hP (c_X3_borneByAll hj l N f t y1 hq2) (cwV 0 hts gX9_count_X3_borneByAll rfl rfl rfl (by decide +kernel) ⟨Nat.le_trans (Nat.le_of_ble_eq_true rfl) hR.1, Nat.le_trans (Nat.le_of_ble_eq_true rfl) hR.2⟩) (va_recv hK hP (ci := 3) (q0 := 23) rfl rfl) rfl hl.1 rfl (Nat.le_of_ble_eq_true rfl) ⟨Nat.zero_le _, Nat.zero_le _⟩ dX9_count_88 (fun H locs hP hS => ?_)
    obtain rfl := Option.some.inj hf
    exact kr H locs ls 91 dX9_count_91 hP hS
  have hf := itF hf c1_5
  by_cases c1_6 : x1 = 6
  · have hf := itT hf c1_6
    refine lv_tableIn (tgt := 92) hx hb dX9_count_1 (by rw [c1_6]; decide) (by rw [c1_6]; decide) (by rw [c1_6]; rfl) (by decide) ?_
    refine lv_aload_n hx hb dX9_count_92 rfl (lv_at hl 0 rfl) ?_
    refine va_get (D := D) (ci := 9) (v := .ref (ad 1)) (C := RX9) (T := TX9) (N := 11) hx hb hts hiX9 hown hK hP 0 rfl rfl 0 (by decide) lk12 (fun _ h9 => h9) rfl dX9_count_93 ?_
    refine va_getN (D := D) (ci := 7) (v := .int (f 1 1)) (C := RX7) (T := TX7) (N := 2) hx hb hts hiX7 hown hK hP 1 rfl rfl 1 (by decide) ln96 (fun _ h9 => h9) rfl dX9_count_96 ?_
    obtain rfl := Option.some.inj hf
    exact kr H locs ls 99 dX9_count_99 hP hS
  have hf := itF hf c1_6
  refine lv_tableOut (tgt := 100) hx hb dX9_count_1 (by have h0 := lv_neT c1_0 (a := 0) rfl; have h1 := lv_neT c1_1 (a := 1) rfl; have h2 := lv_neT c1_2 (a := 2) rfl; have h3 := lv_neT c1_3 (a := 3) rfl; have h4 := lv_neT c1_4 (a := 4) rfl; have h5 := lv_neT c1_5 (a := 5) rfl; have h6 := lv_neT c1_6 (a := 6) rfl; omega) (by decide) ?_
  refine lv_iconst (v := (-1)) hx hb dX9_count_100 (by decide) ?_
  obtain rfl := Option.some.inj hf
  exact kr H locs ls 101 dX9_count_101 hP hS
set_option maxHeartbeats 4000000 in
set_option maxRecDepth 100000 in
theorem c_X9_count (hj : jP ad) (l : Launch) (N : Nat) (x1 : Int32) (f : mM) (t : Int64) (r : Int32) (hf : q_X9_count N x1 f = some r) : Met l yX9_count wsX9_count ({ frames := 1, cells := 0, slots := 0, locals := 22 }) (va_Pc ([.ref (ad 0), .int x1]) (pre D cy (wP ad cy) (xP ad sk sv) f t)) (va_Qi (fun (r2 : Int32) (u : mM × Int64) => r2 = r ∧ u = (f, t)) (atW D (wP ad cy)) (aP ad)) 0 0 (aP ad) := by
  refine Met.ofW (cc := cX9_count) (maxL := 2) (ret := (some .int)) (by decide) rfl ?_
  intro p e s m args below meth c s₁ B hml hv
  obtain ⟨rfl, hP, hK, hX0⟩ := hv
  have hl := lv_entry ([.ref (ad 0), .int x1]) (n := 2) (Nat.le_of_ble_eq_true rfl)
  rw [lg_entry_eq]
  generalize (lg_sl ([.ref (ad 0), .int x1]) ++ List.replicate (2 - (lg_sl ([.ref (ad 0), .int x1])).length) Slot.unset).toArray = ls at hl ⊢
  have hlocks := B.notSynchronized
  exact b_X9_count ⟨B.exec, B.bytes, B.returns, hml, findClass_of_methodNamed B.named, atoms_spec (ws := wsX9_count) B.pre, hlocks, hK, hX0⟩ hj ⟨Nat.le_refl _, Nat.le_refl _⟩ N x1 f t r hf (fun H locs ls pc hd hP hS => W.iret B.exec B.bytes B.returns (fun t2 ht hW => ⟨⟨r, (f, t), rfl, ⟨rfl, rfl⟩, by show va_P D vwCl _ t2.heap; rw [ht]; exact hP⟩, hS.F ht⟩) hS.2.2 hd) s.heap [] ls hP va_S.rf hl
