variable {p : Program} {l : Launch} {e : Env} {R : Room} {s : State} {m : MethodId} {args : Array Value} {below : List Frame} {meth : Method} {c : Code} {Q : State → Prop} {D : va_G} {cy : Nat → ClassId} {ad sk sv : Nat → Nat}
def q_X9_asksBetween (x1 : Int32) (x2 : Int32) (x3 : Int32) (x4 : Int32) (f : mM) : Option (Int32) := bi (q_X9_isWithin x1 1 3) (fun y1 => if y1 = 0 then rz 0 (some 0) else bi (q_X2_areTwoPlaces x2 x3 f) (fun y3 => if y3 = 0 then rz 0 (some 0) else bi (q_X9_isWithin x4 0 1) (fun y5 => if y5 = 0 then rz 0 (some 0) else rz 1 (some 1))))
set_option maxHeartbeats 4000000 in
set_option maxRecDepth 100000 in
theorem b_X9_asksBetween (C0 : cX p s m args meth c cX9_asksBetween 5 (some .boolean) RX9 wsX9_asksBetween D cy (xP ad sk sv)) (hj : jP ad) (hR : 1 ≤ R.frames ∧ 22 ≤ R.locals) (x1 : Int32) (x2 : Int32) (x3 : Int32) (x4 : Int32) (f : mM) (t : Int64) (r : Int32) (hf : q_X9_asksBetween x1 x2 x3 x4 f = some r) (kr : ∀ (H : Heap) (locs : List Loc) (ls : Array Slot) (pc : Nat), decode cX9_asksBetween pc = .ok (.ireturn, 1) → narrow .boolean (.int r) = .int r → va_P D vwCl (wP ad cy f t) H → va_S (aP ad) s.heap H locs → W p l e R s m args below meth c H locs 0 0 Q (F0 m pc ls [.int r])) (H : Heap) (locs : List Loc) (ls : Array Slot) (hP : va_P D vwCl (wP ad cy f t) H) (hS : va_S (aP ad) s.heap H locs) (hl : lv_has ls 5 [(0, .ref (ad 0)), (1, .int x1), (2, .int x2), (3, .int x3), (4, .int x4)]) : W p l e R s m args below meth c H locs 0 0 Q (F0 m 0 ls []) := by
  obtain ⟨hx, hb, hr, hml, hown, hts, hlocks, hK, hX0⟩ := id C0
  have lk19 := hts (.fieldLink RX9 19 "PlankNine" "told" "LPlankNine$Marsh;") (List.mem_of_getElem? (i := 1) rfl)
  have hiX9 : ∀ w ∈ u_ws RX9 TX9 11, w ∈ wsX9_asksBetween := fun w h => List.mem_cons_of_mem _ (List.mem_append_left _ (List.mem_append_right _ h))
  unfold q_X9_asksBetween at hf
  refine lv_iload_n hx hb dX9_asksBetween_0 rfl (lv_at hl 1 rfl) ?_
  refine lv_iconst (v := 1) hx hb dX9_asksBetween_1 (by decide) ?_
  refine lv_iconst (v := 3) hx hb dX9_asksBetween_2 (by decide) ?_
  obtain ⟨y1, hq2, hf⟩ := bi_out hf
  refine cw_si (As := [.int x1, .int 1, .int 3]) (rest := []) ⟨hx, hb, hml, hown, hts⟩ xP_S hK hX0 hS hP (c_X9_isWithin hj l x1 1 3 f t y1 hq2) (va_cwS 3 hts gX9_asksBetween_X9_isWithin rfl rfl rfl (by decide +kernel) ⟨Nat.le_trans (Nat.le_of_ble_eq_true rfl) hR.1, Nat.le_trans (Nat.le_of_ble_eq_true rfl) hR.2⟩) rfl hl.1 rfl (Nat.le_of_ble_eq_true rfl) ⟨Nat.zero_le _, Nat.zero_le _⟩ dX9_asksBetween_3 (fun H locs hP hS => ?_)
  refine lv_if_eq (tgt := 35) hx hb dX9_asksBetween_6 (by decide) (fun c6 => ?_) (fun c6 => ?_)
  · have hf := itT hf c6
    refine lv_iconst (v := 0) hx hb dX9_asksBetween_35 (by decide) ?_
    obtain ⟨hz, hf⟩ := rz_out hf
    obtain rfl := Option.some.inj hf
    exact kr H locs ls 36 dX9_asksBetween_36 hz hP hS
  · have hf := itF hf c6
    refine lv_aload_n hx hb dX9_asksBetween_9 rfl (lv_at hl 0 rfl) ?_
    refine va_get (D := D) (ci := 9) (v := .ref (ad 3)) (C := RX9) (T := TX9) (N := 11) hx hb hts hiX9 hown hK hP 0 rfl rfl 1 (by decide) lk19 (fun _ h9 => h9) rfl dX9_asksBetween_10 ?_
    refine lv_iload_n hx hb dX9_asksBetween_13 rfl (lv_at hl 2 rfl) ?_
    refine lv_iload_n hx hb dX9_asksBetween_14 rfl (lv_at hl 3 rfl) ?_
    obtain ⟨y3, hq4, hf⟩ := bi_out hf
    refine cw_vi (As := [.int x2, .int x3]) (rest := []) ⟨hx, hb, hml, hown, hts⟩ xP_S hK hX0 hS hP (c_X2_areTwoPlaces hj l x2 x3 f t y3 hq4) (cwV 2 hts gX9_asksBetween_X2_areTwoPlaces rfl rfl rfl (by decide +kernel) ⟨Nat.le_trans (Nat.le_of_ble_eq_true rfl) hR.1, Nat.le_trans (Nat.le_of_ble_eq_true rfl) hR.2⟩) (va_recv hK hP (ci := 2) (q0 := 3) rfl rfl) rfl hl.1 rfl (Nat.le_of_ble_eq_true rfl) ⟨Nat.zero_le _, Nat.zero_le _⟩ dX9_asksBetween_15 (fun H locs hP hS => ?_)
    refine lv_if_eq (tgt := 35) hx hb dX9_asksBetween_18 (by decide) (fun c18 => ?_) (fun c18 => ?_)
    · have hf := itT hf c18
      refine lv_iconst (v := 0) hx hb dX9_asksBetween_35 (by decide) ?_
      obtain ⟨hz, hf⟩ := rz_out hf
      obtain rfl := Option.some.inj hf
      exact kr H locs ls 36 dX9_asksBetween_36 hz hP hS
    · have hf := itF hf c18
      refine lv_iload hx hb dX9_asksBetween_21 (lv_at hl 4 rfl) ?_
      refine lv_iconst (v := 0) hx hb dX9_asksBetween_23 (by decide) ?_
      refine lv_iconst (v := 1) hx hb dX9_asksBetween_24 (by decide) ?_
      obtain ⟨y5, hq6, hf⟩ := bi_out hf
      refine cw_si (As := [.int x4, .int 0, .int 1]) (rest := []) ⟨hx, hb, hml, hown, hts⟩ xP_S hK hX0 hS hP (c_X9_isWithin hj l x4 0 1 f t y5 hq6) (va_cwS 3 hts gX9_asksBetween_X9_isWithin rfl rfl rfl (by decide +kernel) ⟨Nat.le_trans (Nat.le_of_ble_eq_true rfl) hR.1, Nat.le_trans (Nat.le_of_ble_eq_true rfl) hR.2⟩) rfl hl.1 rfl (Nat.le_of_ble_eq_true rfl) ⟨Nat.zero_le _, Nat.zero_le _⟩ dX9_asksBetween_25 (fun H locs hP hS => ?_)
      refine lv_if_eq (tgt := 35) hx hb dX9_asksBetween_28 (by decide) (fun c28 => ?_) (fun c28 => ?_)
      · have hf := itT hf c28
        refine lv_iconst (v := 0) hx hb dX9_asksBetween_35 (by decide) ?_
        obtain ⟨hz, hf⟩ := rz_out hf
        obtain rfl := Option.some.inj hf
        exact kr H locs ls 36 dX9_asksBetween_36 hz hP hS
      · have hf := itF hf c28
        refine lv_iconst (v := 1) hx hb dX9_asksBetween_31 (by decide) ?_
        refine lv_goto (tgt := 36) hx hb dX9_asksBetween_32 (by decide) ?_
        obtain ⟨hz, hf⟩ := rz_out hf
        obtain rfl := Option.some.inj hf
        exact kr H locs ls 36 dX9_asksBetween_36 hz hP hS
set_option maxHeartbeats 4000000 in
set_option maxRecDepth 100000 in
theorem c_X9_asksBetween (hj : jP ad) (l : Launch) (x1 : Int32) (x2 : Int32) (x3 : Int32) (x4 : Int32) (f : mM) (t : Int64) (r : Int32) (hf : q_X9_asksBetween x1 x2 x3 x4 f = some r) : Met l yX9_asksBetween wsX9_asksBetween ({ frames := 1, cells := 0, slots := 0, locals := 22 }) (va_Pc ([.ref (ad 0), .int x1, .int x2, .int x3, .int x4]) (pre D cy (wP ad cy) (xP ad sk sv) f t)) (va_Qi (fun (r2 : Int32) (u : mM × Int64) => r2 = r ∧ u = (f, t)) (atW D (wP ad cy)) (aP ad)) 0 0 (aP ad) := by
  refine Met.ofW (cc := cX9_asksBetween) (maxL := 5) (ret := (some .boolean)) (by decide) rfl ?_
  intro p e s m args below meth c s₁ B hml hv
  obtain ⟨rfl, hP, hK, hX0⟩ := hv
  have hl := lv_entry ([.ref (ad 0), .int x1, .int x2, .int x3, .int x4]) (n := 5) (Nat.le_of_ble_eq_true rfl)
  rw [lg_entry_eq]
  generalize (lg_sl ([.ref (ad 0), .int x1, .int x2, .int x3, .int x4]) ++ List.replicate (5 - (lg_sl ([.ref (ad 0), .int x1, .int x2, .int x3, .int x4])).length) Slot.unset).toArray = ls at hl ⊢
  have hlocks := B.notSynchronized
  exact b_X9_asksBetween ⟨B.exec, B.bytes, B.returns, hml, findClass_of_methodNamed B.named, atoms_spec (ws := wsX9_asksBetween) B.pre, hlocks, hK, hX0⟩ hj ⟨Nat.le_refl _, Nat.le_refl _⟩ x1 x2 x3 x4 f t r hf (fun H locs ls pc hd hz hP hS => W.zret B.exec B.bytes B.returns hz (fun t2 ht hW => ⟨⟨r, (f, t), rfl, ⟨rfl, rfl⟩, by show va_P D vwCl _ t2.heap; rw [ht]; exact hP⟩, hS.F ht⟩) hS.2.2 hd) s.heap [] ls hP va_S.rf hl
def q_X9_often (N : Nat) (x1 : Int32) (x2 : Int32) (x3 : Int32) (x4 : Int32) (f : mM) : Option (Int32 × mM) := bi (q_X9_asksBetween x1 x2 x3 x4 f) (fun y1 => if y1 = 0 then some ((-1), f) else bi (q_X0_findLeast N x1 x2 x3 f) (fun f3 => if x4 = 0 then some ((f3 40 2), f3) else some ((f3 40 3), f3)))
set_option maxHeartbeats 4000000 in
set_option maxRecDepth 100000 in
theorem b_X9_often (C0 : cX p s m args meth c cX9_often 5 (some .int) RX9 wsX9_often D cy (xP ad sk sv)) (hj : jP ad) (hR : 3 ≤ R.frames ∧ 71 ≤ R.locals) (N : Nat) (x1 : Int32) (x2 : Int32) (x3 : Int32) (x4 : Int32) (f : mM) (t : Int64) (r : Int32) (fR : mM) (hf : q_X9_often N x1 x2 x3 x4 f = some (r, fR)) (kr : ∀ (H : Heap) (locs : List Loc) (ls : Array Slot) (pc : Nat), decode cX9_often pc = .ok (.ireturn, 1) → va_P D vwCl (wP ad cy fR t) H → va_S (aP ad) s.heap H locs → W p l e R s m args below meth c H locs 0 0 Q (F0 m pc ls [.int r])) (H : Heap) (locs : List Loc) (ls : Array Slot) (hP : va_P D vwCl (wP ad cy f t) H) (hS : va_S (aP ad) s.heap H locs) (hl : lv_has ls 5 [(0, .ref (ad 0)), (1, .int x1), (2, .int x2), (3, .int x3), (4, .int x4)]) : W p l e R s m args below meth c H locs 0 0 Q (F0 m 0 ls []) := by
  obtain ⟨hx, hb, hr, hml, hown, hts, hlocks, hK, hX0⟩ := id C0
  have lk66 := hts (.fieldLink RX9 66 "PlankNine" "cuts" "LPlankNine$Cuts;") (List.mem_of_getElem? (i := 1) rfl)
  have hiX9 : ∀ w ∈ u_ws RX9 TX9 11, w ∈ wsX9_often := fun w h => List.mem_cons_of_mem _ (List.mem_append_left _ (List.mem_append_left _ (List.mem_append_left _ (List.mem_append_right _ h))))
  have ln206 := nlF_49 (args := args) hX0
  have hiX0 : ∀ w ∈ u_ws RX0 TX0 6, w ∈ wsX9_often := fun w h => List.mem_cons_of_mem _ (List.mem_append_left _ (List.mem_append_left _ (List.mem_append_right _ h)))
  have ln203 := nlF_48 (args := args) hX0
  unfold q_X9_often at hf
  refine lv_aload_n hx hb dX9_often_0 rfl (lv_at hl 0 rfl) ?_
  refine lv_iload_n hx hb dX9_often_1 rfl (lv_at hl 1 rfl) ?_
  refine lv_iload_n hx hb dX9_often_2 rfl (lv_at hl 2 rfl) ?_
  refine lv_iload_n hx hb dX9_often_3 rfl (lv_at hl 3 rfl) ?_
  refine lv_iload hx hb dX9_often_4 (lv_at hl 4 rfl) ?_
  obtain ⟨y1, hq2, hf⟩ := bi_out hf
  refine cw_vi (As := [.int x1, .int x2, .int x3, .int x4]) (rest := []) ⟨hx, hb, hml, hown, hts⟩ xP_S hK hX0 hS hP (c_X9_asksBetween hj l x1 x2 x3 x4 f t y1 hq2) (cwV 4 hts gX9_often_X9_asksBetween rfl rfl rfl (by decide +kernel) ⟨Nat.le_trans (Nat.le_of_ble_eq_true rfl) hR.1, Nat.le_trans (Nat.le_of_ble_eq_true rfl) hR.2⟩) (va_recv hK hP (ci := 9) (q0 := 0) rfl rfl) rfl hl.1 rfl (Nat.le_of_ble_eq_true rfl) ⟨Nat.zero_le _, Nat.zero_le _⟩ dX9_often_6 (fun H locs hP hS => ?_)
  refine lv_if_ne (tgt := 14) hx hb dX9_often_9 (by decide) (fun c9 => ?_) (fun c9 => ?_)
  · have hf := itF hf c9
    refine lv_aload_n hx hb dX9_often_14 rfl (lv_at hl 0 rfl) ?_
    refine va_get (D := D) (ci := 9) (v := .ref (ad 40)) (C := RX9) (T := TX9) (N := 11) hx hb hts hiX9 hown hK hP 0 rfl rfl 8 (by decide) lk66 (fun _ h9 => h9) rfl dX9_often_15 ?_
    refine lv_iload_n hx hb dX9_often_18 rfl (lv_at hl 1 rfl) ?_
    refine lv_iload_n hx hb dX9_often_19 rfl (lv_at hl 2 rfl) ?_
    refine lv_iload_n hx hb dX9_often_20 rfl (lv_at hl 3 rfl) ?_
    obtain ⟨f3, hq4, hf⟩ := bi_out hf
    refine cw_vv (As := [.int x1, .int x2, .int x3]) (rest := []) ⟨hx, hb, hml, hown, hts⟩ xP_S hK hX0 hS hP (c_X0_findLeast hj l N x1 x2 x3 f t f3 hq4) (cwV 3 hts gX9_often_X0_findLeast rfl rfl rfl (by decide +kernel) ⟨Nat.le_trans (Nat.le_of_ble_eq_true rfl) hR.1, Nat.le_trans (Nat.le_of_ble_eq_true rfl) hR.2⟩) (va_recv hK hP (ci := 0) (q0 := 40) rfl rfl) rfl hl.1 rfl (Nat.le_of_ble_eq_true rfl) ⟨Nat.zero_le _, Nat.zero_le _⟩ dX9_often_21 (fun H locs hP hS => ?_)
    refine lv_iload hx hb dX9_often_24 (lv_at hl 4 rfl) ?_
    refine lv_if_ne (tgt := 39) hx hb dX9_often_26 (by decide) (fun c26 => ?_) (fun c26 => ?_)
    · have hf := itF hf c26
      refine lv_aload_n hx hb dX9_often_39 rfl (lv_at hl 0 rfl) ?_
      refine va_get (D := D) (ci := 9) (v := .ref (ad 40)) (C := RX9) (T := TX9) (N := 11) hx hb hts hiX9 hown hK hP 0 rfl rfl 8 (by decide) lk66 (fun _ h9 => h9) rfl dX9_often_40 ?_
      refine va_getN (D := D) (ci := 0) (v := .int (f3 40 3)) (C := RX0) (T := TX0) (N := 6) hx hb hts hiX0 hown hK hP 40 rfl rfl 3 (by decide) ln206 (fun _ h9 => h9) rfl dX9_often_43 ?_
      obtain ⟨rfl, rfl⟩ := Prod.mk.inj (Option.some.inj hf)
      exact kr H locs ls 46 dX9_often_46 hP hS
    · have hf := itT hf c26
      refine lv_aload_n hx hb dX9_often_29 rfl (lv_at hl 0 rfl) ?_
      refine va_get (D := D) (ci := 9) (v := .ref (ad 40)) (C := RX9) (T := TX9) (N := 11) hx hb hts hiX9 hown hK hP 0 rfl rfl 8 (by decide) lk66 (fun _ h9 => h9) rfl dX9_often_30 ?_
      refine va_getN (D := D) (ci := 0) (v := .int (f3 40 2)) (C := RX0) (T := TX0) (N := 6) hx hb hts hiX0 hown hK hP 40 rfl rfl 2 (by decide) ln203 (fun _ h9 => h9) rfl dX9_often_33 ?_
      refine lv_goto (tgt := 46) hx hb dX9_often_36 (by decide) ?_
      obtain ⟨rfl, rfl⟩ := Prod.mk.inj (Option.some.inj hf)
      exact kr H locs ls 46 dX9_often_46 hP hS
  · have hf := itT hf c9
    refine lv_iconst (v := (-1)) hx hb dX9_often_12 (by decide) ?_
    obtain ⟨rfl, rfl⟩ := Prod.mk.inj (Option.some.inj hf)
    exact kr H locs ls 13 dX9_often_13 hP hS
set_option maxHeartbeats 4000000 in
set_option maxRecDepth 100000 in
theorem c_X9_often (hj : jP ad) (l : Launch) (N : Nat) (x1 : Int32) (x2 : Int32) (x3 : Int32) (x4 : Int32) (f : mM) (t : Int64) (r : Int32) (fR : mM) (hf : q_X9_often N x1 x2 x3 x4 f = some (r, fR)) : Met l yX9_often wsX9_often ({ frames := 3, cells := 0, slots := 0, locals := 71 }) (va_Pc ([.ref (ad 0), .int x1, .int x2, .int x3, .int x4]) (pre D cy (wP ad cy) (xP ad sk sv) f t)) (va_Qi (fun (r2 : Int32) (u : mM × Int64) => r2 = r ∧ u = (fR, t)) (atW D (wP ad cy)) (aP ad)) 0 0 (aP ad) := by
  refine Met.ofW (cc := cX9_often) (maxL := 5) (ret := (some .int)) (by decide) rfl ?_
  intro p e s m args below meth c s₁ B hml hv
  obtain ⟨rfl, hP, hK, hX0⟩ := hv
  have hl := lv_entry ([.ref (ad 0), .int x1, .int x2, .int x3, .int x4]) (n := 5) (Nat.le_of_ble_eq_true rfl)
  rw [lg_entry_eq]
  generalize (lg_sl ([.ref (ad 0), .int x1, .int x2, .int x3, .int x4]) ++ List.replicate (5 - (lg_sl ([.ref (ad 0), .int x1, .int x2, .int x3, .int x4])).length) Slot.unset).toArray = ls at hl ⊢
  have hlocks := B.notSynchronized
  exact b_X9_often ⟨B.exec, B.bytes, B.returns, hml, findClass_of_methodNamed B.named, atoms_spec (ws := wsX9_often) B.pre, hlocks, hK, hX0⟩ hj ⟨Nat.le_refl _, Nat.le_refl _⟩ N x1 x2 x3 x4 f t r fR hf (fun H locs ls pc hd hP hS => W.iret B.exec B.bytes B.returns (fun t2 ht hW => ⟨⟨r, (fR, t), rfl, ⟨rfl, rfl⟩, by show va_P D vwCl _ t2.heap; rw [ht]; exact hP⟩, hS.F ht⟩) hS.2.2 hd) s.heap [] ls hP va_S.rf hl
def q_X9_better (N : Nat) (x1 : Int32) (x2 : Int32) (x3 : Int32) (x4 : Int32) (f : mM) : Option (Int32 × mM) := bi (q_X9_asksBetween x1 x2 x3 x4 f) (fun y1 => if y1 = 0 then some ((-1), f) else if 2 ≤ (f 3 1) then bi (q_X0_findBestExchange N x1 x2 x3 f) (fun f3 => if x4 = 0 then some ((f3 40 5), f3) else some ((f3 40 4), f3)) else some ((-9), f))
set_option maxHeartbeats 4000000 in
set_option maxRecDepth 100000 in
theorem b_X9_better (C0 : cX p s m args meth c cX9_better 5 (some .int) RX9 wsX9_better D cy (xP ad sk sv)) (hj : jP ad) (hR : 4 ≤ R.frames ∧ 96 ≤ R.locals) (N : Nat) (x1 : Int32) (x2 : Int32) (x3 : Int32) (x4 : Int32) (f : mM) (t : Int64) (r : Int32) (fR : mM) (hf : q_X9_better N x1 x2 x3 x4 f = some (r, fR)) (kr : ∀ (H : Heap) (locs : List Loc) (ls : Array Slot) (pc : Nat), decode cX9_better pc = .ok (.ireturn, 1) → va_P D vwCl (wP ad cy fR t) H → va_S (aP ad) s.heap H locs → W p l e R s m args below meth c H locs 0 0 Q (F0 m pc ls [.int r])) (H : Heap) (locs : List Loc) (ls : Array Slot) (hP : va_P D vwCl (wP ad cy f t) H) (hS : va_S (aP ad) s.heap H locs) (hl : lv_has ls 5 [(0, .ref (ad 0)), (1, .int x1), (2, .int x2), (3, .int x3), (4, .int x4)]) : W p l e R s m args below meth c H locs 0 0 Q (F0 m 0 ls []) := by
  obtain ⟨hx, hb, hr, hml, hown, hts, hlocks, hK, hX0⟩ := id C0
  have lk19 := hts (.fieldLink RX9 19 "PlankNine" "told" "LPlankNine$Marsh;") (List.mem_of_getElem? (i := 1) rfl)
  have hiX9 : ∀ w ∈ u_ws RX9 TX9 11, w ∈ wsX9_better := fun w h => List.mem_cons_of_mem _ (List.mem_append_left _ (List.mem_append_left _ (List.mem_append_left _ (List.mem_append_right _ h))))
  have ln209 := nlF_12 (args := args) hX0
  have hiX2 : ∀ w ∈ u_ws RX2 TX2 12, w ∈ wsX9_better := fun w h => List.mem_cons_of_mem _ (List.mem_append_left _ (List.mem_append_left _ (List.mem_append_right _ h)))
  have lk66 := hts (.fieldLink RX9 66 "PlankNine" "cuts" "LPlankNine$Cuts;") (List.mem_of_getElem? (i := 2) rfl)
  have ln218 := nlF_50 (args := args) hX0
  have hiX0 : ∀ w ∈ u_ws RX0 TX0 6, w ∈ wsX9_better := fun w h => List.mem_cons_of_mem _ (List.mem_append_left _ (List.mem_append_right _ h))
  have ln215 := nlF_51 (args := args) hX0
  unfold q_X9_better at hf
  refine lv_aload_n hx hb dX9_better_0 rfl (lv_at hl 0 rfl) ?_
  refine lv_iload_n hx hb dX9_better_1 rfl (lv_at hl 1 rfl) ?_
  refine lv_iload_n hx hb dX9_better_2 rfl (lv_at hl 2 rfl) ?_
  refine lv_iload_n hx hb dX9_better_3 rfl (lv_at hl 3 rfl) ?_
  refine lv_iload hx hb dX9_better_4 (lv_at hl 4 rfl) ?_
  obtain ⟨y1, hq2, hf⟩ := bi_out hf
  refine cw_vi (As := [.int x1, .int x2, .int x3, .int x4]) (rest := []) ⟨hx, hb, hml, hown, hts⟩ xP_S hK hX0 hS hP (c_X9_asksBetween hj l x1 x2 x3 x4 f t y1 hq2) (cwV 4 hts gX9_better_X9_asksBetween rfl rfl rfl (by decide +kernel) ⟨Nat.le_trans (Nat.le_of_ble_eq_true rfl) hR.1, Nat.le_trans (Nat.le_of_ble_eq_true rfl) hR.2⟩) (va_recv hK hP (ci := 9) (q0 := 0) rfl rfl) rfl hl.1 rfl (Nat.le_of_ble_eq_true rfl) ⟨Nat.zero_le _, Nat.zero_le _⟩ dX9_better_6 (fun H locs hP hS => ?_)
  refine lv_if_ne (tgt := 14) hx hb dX9_better_9 (by decide) (fun c9 => ?_) (fun c9 => ?_)
  · have hf := itF hf c9
    refine lv_aload_n hx hb dX9_better_14 rfl (lv_at hl 0 rfl) ?_
    refine va_get (D := D) (ci := 9) (v := .ref (ad 3)) (C := RX9) (T := TX9) (N := 11) hx hb hts hiX9 hown hK hP 0 rfl rfl 1 (by decide) lk19 (fun _ h9 => h9) rfl dX9_better_15 ?_
    refine va_getN (D := D) (ci := 2) (v := .int (f 3 1)) (C := RX2) (T := TX2) (N := 12) hx hb hts hiX2 hown hK hP 3 rfl rfl 1 (by decide) ln209 (fun _ h9 => h9) rfl dX9_better_18 ?_
    refine lv_iconst (v := 2) hx hb dX9_better_21 (by decide) ?_
    refine lv_icmp_ge (tgt := 28) hx hb dX9_better_22 (by decide) (fun c22 => ?_) (fun c22 => ?_)
    · have hf := itT hf c22
      refine lv_aload_n hx hb dX9_better_28 rfl (lv_at hl 0 rfl) ?_
      refine va_get (D := D) (ci := 9) (v := .ref (ad 40)) (C := RX9) (T := TX9) (N := 11) hx hb hts hiX9 hown hK hP 0 rfl rfl 8 (by decide) lk66 (fun _ h9 => h9) rfl dX9_better_29 ?_
      refine lv_iload_n hx hb dX9_better_32 rfl (lv_at hl 1 rfl) ?_
      refine lv_iload_n hx hb dX9_better_33 rfl (lv_at hl 2 rfl) ?_
      refine lv_iload_n hx hb dX9_better_34 rfl (lv_at hl 3 rfl) ?_
      obtain ⟨f3, hq4, hf⟩ := bi_out hf
      refine cw_vv (As := [.int x1, .int x2, .int x3]) (rest := []) ⟨hx, hb, hml, hown, hts⟩ xP_S hK hX0 hS hP (c_X0_findBestExchange hj l N x1 x2 x3 f t f3 hq4) (cwV 3 hts gX9_better_X0_findBestExchange rfl rfl rfl (by decide +kernel) ⟨Nat.le_trans (Nat.le_of_ble_eq_true rfl) hR.1, Nat.le_trans (Nat.le_of_ble_eq_true rfl) hR.2⟩) (va_recv hK hP (ci := 0) (q0 := 40) rfl rfl) rfl hl.1 rfl (Nat.le_of_ble_eq_true rfl) ⟨Nat.zero_le _, Nat.zero_le _⟩ dX9_better_35 (fun H locs hP hS => ?_)
      refine lv_iload hx hb dX9_better_38 (lv_at hl 4 rfl) ?_
      refine lv_if_ne (tgt := 53) hx hb dX9_better_40 (by decide) (fun c40 => ?_) (fun c40 => ?_)
      · have hf := itF hf c40
        refine lv_aload_n hx hb dX9_better_53 rfl (lv_at hl 0 rfl) ?_
        refine va_get (D := D) (ci := 9) (v := .ref (ad 40)) (C := RX9) (T := TX9) (N := 11) hx hb hts hiX9 hown hK hP 0 rfl rfl 8 (by decide) lk66 (fun _ h9 => h9) rfl dX9_better_54 ?_
        refine va_getN (D := D) (ci := 0) (v := .int (f3 40 4)) (C := RX0) (T := TX0) (N := 6) hx hb hts hiX0 hown hK hP 40 rfl rfl 4 (by decide) ln218 (fun _ h9 => h9) rfl dX9_better_57 ?_
        obtain ⟨rfl, rfl⟩ := Prod.mk.inj (Option.some.inj hf)
        exact kr H locs ls 60 dX9_better_60 hP hS
      · have hf := itT hf c40
        refine lv_aload_n hx hb dX9_better_43 rfl (lv_at hl 0 rfl) ?_
        refine va_get (D := D) (ci := 9) (v := .ref (ad 40)) (C := RX9) (T := TX9) (N := 11) hx hb hts hiX9 hown hK hP 0 rfl rfl 8 (by decide) lk66 (fun _ h9 => h9) rfl dX9_better_44 ?_
        refine va_getN (D := D) (ci := 0) (v := .int (f3 40 5)) (C := RX0) (T := TX0) (N := 6) hx hb hts hiX0 hown hK hP 40 rfl rfl 5 (by decide) ln215 (fun _ h9 => h9) rfl dX9_better_47 ?_
        refine lv_goto (tgt := 60) hx hb dX9_better_50 (by decide) ?_
        obtain ⟨rfl, rfl⟩ := Prod.mk.inj (Option.some.inj hf)
        exact kr H locs ls 60 dX9_better_60 hP hS
    · have hf := itF hf c22
      refine lv_bipush (v := (-9)) hx hb dX9_better_25 (by decide) ?_
      obtain ⟨rfl, rfl⟩ := Prod.mk.inj (Option.some.inj hf)
      exact kr H locs ls 27 dX9_better_27 hP hS
  · have hf := itT hf c9
    refine lv_iconst (v := (-1)) hx hb dX9_better_12 (by decide) ?_
    obtain ⟨rfl, rfl⟩ := Prod.mk.inj (Option.some.inj hf)
    exact kr H locs ls 13 dX9_better_13 hP hS
set_option maxHeartbeats 4000000 in
set_option maxRecDepth 100000 in
theorem c_X9_better (hj : jP ad) (l : Launch) (N : Nat) (x1 : Int32) (x2 : Int32) (x3 : Int32) (x4 : Int32) (f : mM) (t : Int64) (r : Int32) (fR : mM) (hf : q_X9_better N x1 x2 x3 x4 f = some (r, fR)) : Met l yX9_better wsX9_better ({ frames := 4, cells := 0, slots := 0, locals := 96 }) (va_Pc ([.ref (ad 0), .int x1, .int x2, .int x3, .int x4]) (pre D cy (wP ad cy) (xP ad sk sv) f t)) (va_Qi (fun (r2 : Int32) (u : mM × Int64) => r2 = r ∧ u = (fR, t)) (atW D (wP ad cy)) (aP ad)) 0 0 (aP ad) := by
  refine Met.ofW (cc := cX9_better) (maxL := 5) (ret := (some .int)) (by decide) rfl ?_
  intro p e s m args below meth c s₁ B hml hv
  obtain ⟨rfl, hP, hK, hX0⟩ := hv
  have hl := lv_entry ([.ref (ad 0), .int x1, .int x2, .int x3, .int x4]) (n := 5) (Nat.le_of_ble_eq_true rfl)
  rw [lg_entry_eq]
  generalize (lg_sl ([.ref (ad 0), .int x1, .int x2, .int x3, .int x4]) ++ List.replicate (5 - (lg_sl ([.ref (ad 0), .int x1, .int x2, .int x3, .int x4])).length) Slot.unset).toArray = ls at hl ⊢
  have hlocks := B.notSynchronized
  exact b_X9_better ⟨B.exec, B.bytes, B.returns, hml, findClass_of_methodNamed B.named, atoms_spec (ws := wsX9_better) B.pre, hlocks, hK, hX0⟩ hj ⟨Nat.le_refl _, Nat.le_refl _⟩ N x1 x2 x3 x4 f t r fR hf (fun H locs ls pc hd hP hS => W.iret B.exec B.bytes B.returns (fun t2 ht hW => ⟨⟨r, (fR, t), rfl, ⟨rfl, rfl⟩, by show va_P D vwCl _ t2.heap; rw [ht]; exact hP⟩, hS.F ht⟩) hS.2.2 hd) s.heap [] ls hP va_S.rf hl
def q_X9_spent (N : Nat) (x1 : Int32) (x2 : Int32) (f : mM) : Option (Int32) := bi (q_X9_isImage x1) (fun y1 => if y1 = 0 then some (-1) else sq (fun (_ : Unit) => gi x1 2 (if (f 36 (Int32.toNatClampNeg x1)) = 0 then some (-2) else if x1 = 0 then if x2 = (-1) then bi (q_X6_spentByAll_41_28 N f) (fun y7 => some y7) else bi (q_X6_spentBy_41_28 x2 f) (fun y5 => some y5) else if x1 = 1 then if x2 = (-1) then bi (q_X6_spentByAll_41_32 N f) (fun y11 => some y11) else bi (q_X6_spentBy_41_32 x2 f) (fun y9 => some y9) else none)) (fun k3 => if x2 = (-1) then k3 () else bi (q_X2_isPlank x2 f) (fun y13 => if y13 = 0 then some (-1) else k3 ())))
set_option maxHeartbeats 4000000 in
set_option maxRecDepth 100000 in
theorem b_X9_spent (C0 : cX p s m args meth c cX9_spent 4 (some .int) RX9 wsX9_spent D cy (xP ad sk sv)) (hj : jP ad) (hR : 3 ≤ R.frames ∧ 66 ≤ R.locals) (N : Nat) (x1 : Int32) (x2 : Int32) (f : mM) (t : Int64) (r : Int32) (hf : q_X9_spent N x1 x2 f = some r) (kr : ∀ (H : Heap) (locs : List Loc) (ls : Array Slot) (pc : Nat), decode cX9_spent pc = .ok (.ireturn, 1) → va_P D vwCl (wP ad cy f t) H → va_S (aP ad) s.heap H locs → W p l e R s m args below meth c H locs 0 0 Q (F0 m pc ls [.int r])) (H : Heap) (locs : List Loc) (ls : Array Slot) (hP : va_P D vwCl (wP ad cy f t) H) (hS : va_S (aP ad) s.heap H locs) (hl : lv_has ls 4 [(0, .ref (ad 0)), (1, .int x1), (2, .int x2)]) : W p l e R s m args below meth c H locs 0 0 Q (F0 m 0 ls []) := by
  obtain ⟨hx, hb, hr, hml, hown, hts, hlocks, hK, hX0⟩ := id C0
  have lk43 := hts (.fieldLink RX9 43 "PlankNine" "kept" "[Z") (List.mem_of_getElem? (i := 2) rfl)
  have hiX9 : ∀ w ∈ u_ws RX9 TX9 11, w ∈ wsX9_spent := fun w h => List.mem_cons_of_mem _ (List.mem_append_left _ (List.mem_append_left _ (List.mem_append_left _ (List.mem_append_right _ h))))
  have lk39 := hts (.fieldLink RX9 39 "PlankNine" "images" "[LPlankNine$Now;") (List.mem_of_getElem? (i := 3) rfl)
  have lk73 := hts (.fieldLink RX9 73 "PlankNine" "tales" "LPlankNine$Tales;") (List.mem_of_getElem? (i := 4) rfl)
  have lk19 := hts (.fieldLink RX9 19 "PlankNine" "told" "LPlankNine$Marsh;") (List.mem_of_getElem? (i := 1) rfl)
  unfold q_X9_spent at hf
  refine lv_iload_n hx hb dX9_spent_0 rfl (lv_at hl 1 rfl) ?_
  obtain ⟨y1, hq2, hf⟩ := bi_out hf
  refine cw_si (As := [.int x1]) (rest := []) ⟨hx, hb, hml, hown, hts⟩ xP_S hK hX0 hS hP (c_X9_isImage hj l x1 f t y1 hq2) (va_cwS 1 hts gX9_spent_X9_isImage rfl rfl rfl (by decide +kernel) ⟨Nat.le_trans (Nat.le_of_ble_eq_true rfl) hR.1, Nat.le_trans (Nat.le_of_ble_eq_true rfl) hR.2⟩) rfl hl.1 rfl (Nat.le_of_ble_eq_true rfl) ⟨Nat.zero_le _, Nat.zero_le _⟩ dX9_spent_1 (fun H locs hP hS => ?_)
  refine lv_if_eq (tgt := 23) hx hb dX9_spent_4 (by decide) (fun c4 => ?_) (fun c4 => ?_)
  · have hf := itT hf c4
    refine lv_iconst (v := (-1)) hx hb dX9_spent_23 (by decide) ?_
    obtain rfl := Option.some.inj hf
    exact kr H locs ls 24 dX9_spent_24 hP hS
  · have hf := itF hf c4
    refine lv_iload_n hx hb dX9_spent_7 rfl (lv_at hl 2 rfl) ?_
    refine lv_iconst (v := (-1)) hx hb dX9_spent_8 (by decide) ?_
    obtain ⟨k3, ek3, hf⟩ := sq_out hf
    have hk3 : k3 () = some r → ∀ (H : Heap) (locs : List Loc) (ls : Array Slot), va_P D vwCl (wP ad cy f t) H → va_S (aP ad) s.heap H locs → lv_has ls 4 [(0, .ref (ad 0)), (1, .int x1), (2, .int x2)] → W p l e R s m args below meth c H locs 0 0 Q (F0 m 25 ls []) := by
      intro hf H locs ls hP hS hl
      have hf := sk1 ek3 () hf
      refine lv_aload_n hx hb dX9_spent_25 rfl (lv_at hl 0 rfl) ?_
      refine va_get (D := D) (ci := 9) (v := .ref (ad 36)) (C := RX9) (T := TX9) (N := 11) hx hb hts hiX9 hown hK hP 0 rfl rfl 5 (by decide) lk43 (fun _ h9 => h9) rfl dX9_spent_26 ?_
      refine lv_iload_n hx hb dX9_spent_29 rfl (lv_at hl 1 rfl) ?_
      obtain ⟨hin4, hf⟩ := gi_out hf
      refine va_zald hx hb hK hP 36 2 rfl rfl hin4 dX9_spent_30 ?_
      refine lv_if_ne (tgt := 37) hx hb dX9_spent_31 (by decide) (fun c31 => ?_) (fun c31 => ?_)
      · have hf := itF hf c31
        refine lv_aload_n hx hb dX9_spent_37 rfl (lv_at hl 0 rfl) ?_
        refine va_get (D := D) (ci := 9) (v := .ref (ad 27)) (C := RX9) (T := TX9) (N := 11) hx hb hts hiX9 hown hK hP 0 rfl rfl 4 (by decide) lk39 (fun _ h9 => h9) rfl dX9_spent_38 ?_
        refine lv_iload_n hx hb dX9_spent_41 rfl (lv_at hl 1 rfl) ?_
        by_cases c42 : x1 = 0
        · have hf := itT hf c42
          refine va_aldq hx hb hK hP 27 3 rfl rfl (by rw [c42]; unfold vp_in; decide) dX9_spent_42 ?_
          rw [c42]
          show W p l e R s m args below meth c H locs 0 0 Q (F0 m 43 ls [.ref (ad 28)])
          refine lv_astore_n (lv' := [(3, .ref (ad 28)), (0, .ref (ad 0)), (1, .int x1), (2, .int x2)]) hx hb dX9_spent_43 rfl hl (by decide) rfl (fun ls hl => ?_)
          refine lv_iload_n hx hb dX9_spent_44 rfl (lv_at hl 3 rfl) ?_
          refine lv_iconst (v := (-1)) hx hb dX9_spent_45 (by decide) ?_
          refine lv_icmp_ne (tgt := 60) hx hb dX9_spent_46 (by decide) (fun c46 => ?_) (fun c46 => ?_)
          · have hf := itF hf c46
            refine lv_aload_n hx hb dX9_spent_60 rfl (lv_at hl 1 rfl) ?_
            refine va_get (D := D) (ci := 9) (v := .ref (ad 41)) (C := RX9) (T := TX9) (N := 11) hx hb hts hiX9 hown hK hP 0 rfl rfl 9 (by decide) lk73 (fun _ h9 => h9) rfl dX9_spent_61 ?_
            refine lv_aload_n hx hb dX9_spent_64 rfl (lv_at hl 0 rfl) ?_
            refine lv_iload_n hx hb dX9_spent_65 rfl (lv_at hl 3 rfl) ?_
            obtain ⟨y5, hq6, hf⟩ := bi_out hf
            refine cw_vi (As := [.ref (ad 28), .int x2]) (rest := []) ⟨hx, hb, hml, hown, hts⟩ xP_S hK hX0 hS hP (c_X6_spentBy_41_28 hj l x2 f t y5 hq6) (cwV 2 hts gX9_spent_X6_spentBy rfl rfl rfl (by decide +kernel) ⟨Nat.le_trans (Nat.le_of_ble_eq_true rfl) hR.1, Nat.le_trans (Nat.le_of_ble_eq_true rfl) hR.2⟩) (va_recv hK hP (ci := 6) (q0 := 41) rfl rfl) rfl hl.1 rfl (Nat.le_of_ble_eq_true rfl) ⟨Nat.zero_le _, Nat.zero_le _⟩ dX9_spent_66 (fun H locs hP hS => ?_)
            obtain rfl := Option.some.inj hf
            exact kr H locs ls 69 dX9_spent_69 hP hS
          · have hf := itT hf c46
            refine lv_aload_n hx hb dX9_spent_49 rfl (lv_at hl 1 rfl) ?_
            refine va_get (D := D) (ci := 9) (v := .ref (ad 41)) (C := RX9) (T := TX9) (N := 11) hx hb hts hiX9 hown hK hP 0 rfl rfl 9 (by decide) lk73 (fun _ h9 => h9) rfl dX9_spent_50 ?_
            refine lv_aload_n hx hb dX9_spent_53 rfl (lv_at hl 0 rfl) ?_
            obtain ⟨y7, hq8, hf⟩ := bi_out hf
            refine cw_vi (As := [.ref (ad 28)]) (rest := []) ⟨hx, hb, hml, hown, hts⟩ xP_S hK hX0 hS hP (c_X6_spentByAll_41_28 hj l N f t y7 hq8) (cwV 1 hts gX9_spent_X6_spentByAll rfl rfl rfl (by decide +kernel) ⟨Nat.le_trans (Nat.le_of_ble_eq_true rfl) hR.1, Nat.le_trans (Nat.le_of_ble_eq_true rfl) hR.2⟩) (va_recv hK hP (ci := 6) (q0 := 41) rfl rfl) rfl hl.1 rfl (Nat.le_of_ble_eq_true rfl) ⟨Nat.zero_le _, Nat.zero_le _⟩ dX9_spent_54 (fun H locs hP hS => ?_)
            refine lv_goto (tgt := 69) hx hb dX9_spent_57 (by decide) ?_
            obtain rfl := Option.some.inj hf
            exact kr H locs ls 69 dX9_spent_69 hP hS
        · have hf := itF hf c42
          by_cases cc42 : x1 = 1
          · have hf := itT hf cc42
            refine va_aldq hx hb hK hP 27 3 rfl rfl (by rw [cc42]; unfold vp_in; decide) dX9_spent_42 ?_
            rw [cc42]
            show W p l e R s m args below meth c H locs 0 0 Q (F0 m 43 ls [.ref (ad 32)])
            refine lv_astore_n (lv' := [(3, .ref (ad 32)), (0, .ref (ad 0)), (1, .int x1), (2, .int x2)]) hx hb dX9_spent_43 rfl hl (by decide) rfl (fun ls hl => ?_)
            refine lv_iload_n hx hb dX9_spent_44 rfl (lv_at hl 3 rfl) ?_
            refine lv_iconst (v := (-1)) hx hb dX9_spent_45 (by decide) ?_
            refine lv_icmp_ne (tgt := 60) hx hb dX9_spent_46 (by decide) (fun c46 => ?_) (fun c46 => ?_)
            · have hf := itF hf c46
              refine lv_aload_n hx hb dX9_spent_60 rfl (lv_at hl 1 rfl) ?_
              refine va_get (D := D) (ci := 9) (v := .ref (ad 41)) (C := RX9) (T := TX9) (N := 11) hx hb hts hiX9 hown hK hP 0 rfl rfl 9 (by decide) lk73 (fun _ h9 => h9) rfl dX9_spent_61 ?_
              refine lv_aload_n hx hb dX9_spent_64 rfl (lv_at hl 0 rfl) ?_
              refine lv_iload_n hx hb dX9_spent_65 rfl (lv_at hl 3 rfl) ?_
              obtain ⟨y9, hq10, hf⟩ := bi_out hf
              refine cw_vi (As := [.ref (ad 32), .int x2]) (rest := []) ⟨hx, hb, hml, hown, hts⟩ xP_S hK hX0 hS hP (c_X6_spentBy_41_32 hj l x2 f t y9 hq10) (cwV 2 hts gX9_spent_X6_spentBy rfl rfl rfl (by decide +kernel) ⟨Nat.le_trans (Nat.le_of_ble_eq_true rfl) hR.1, Nat.le_trans (Nat.le_of_ble_eq_true rfl) hR.2⟩) (va_recv hK hP (ci := 6) (q0 := 41) rfl rfl) rfl hl.1 rfl (Nat.le_of_ble_eq_true rfl) ⟨Nat.zero_le _, Nat.zero_le _⟩ dX9_spent_66 (fun H locs hP hS => ?_)
              obtain rfl := Option.some.inj hf
              exact kr H locs ls 69 dX9_spent_69 hP hS
            · have hf := itT hf c46
              refine lv_aload_n hx hb dX9_spent_49 rfl (lv_at hl 1 rfl) ?_
              refine va_get (D := D) (ci := 9) (v := .ref (ad 41)) (C := RX9) (T := TX9) (N := 11) hx hb hts hiX9 hown hK hP 0 rfl rfl 9 (by decide) lk73 (fun _ h9 => h9) rfl dX9_spent_50 ?_
              refine lv_aload_n hx hb dX9_spent_53 rfl (lv_at hl 0 rfl) ?_
              obtain ⟨y11, hq12, hf⟩ := bi_out hf
              refine cw_vi (As := [.ref (ad 32)]) (rest := []) ⟨hx, hb, hml, hown, hts⟩ xP_S hK hX0 hS hP (c_X6_spentByAll_41_32 hj l N f t y11 hq12) (cwV 1 hts gX9_spent_X6_spentByAll rfl rfl rfl (by decide +kernel) ⟨Nat.le_trans (Nat.le_of_ble_eq_true rfl) hR.1, Nat.le_trans (Nat.le_of_ble_eq_true rfl) hR.2⟩) (va_recv hK hP (ci := 6) (q0 := 41) rfl rfl) rfl hl.1 rfl (Nat.le_of_ble_eq_true rfl) ⟨Nat.zero_le _, Nat.zero_le _⟩ dX9_spent_54 (fun H locs hP hS => ?_)
              refine lv_goto (tgt := 69) hx hb dX9_spent_57 (by decide) ?_
              obtain rfl := Option.some.inj hf
              exact kr H locs ls 69 dX9_spent_69 hP hS
          · exact no_none (itF hf cc42)
      · have hf := itT hf c31
        refine lv_bipush (v := (-2)) hx hb dX9_spent_34 (by decide) ?_
        obtain rfl := Option.some.inj hf
        exact kr H locs ls 36 dX9_spent_36 hP hS
    refine lv_icmp_eq (tgt := 25) hx hb dX9_spent_9 (by decide) (fun c9 => ?_) (fun c9 => ?_)
    · have hf := itT hf c9
      exact hk3 hf H locs ls hP hS (lv_sub hl [0, 1, 2] rfl)
    · have hf := itF hf c9
      refine lv_aload_n hx hb dX9_spent_12 rfl (lv_at hl 0 rfl) ?_
      refine va_get (D := D) (ci := 9) (v := .ref (ad 3)) (C := RX9) (T := TX9) (N := 11) hx hb hts hiX9 hown hK hP 0 rfl rfl 1 (by decide) lk19 (fun _ h9 => h9) rfl dX9_spent_13 ?_
      refine lv_iload_n hx hb dX9_spent_16 rfl (lv_at hl 2 rfl) ?_
      obtain ⟨y13, hq14, hf⟩ := bi_out hf
      refine cw_vi (As := [.int x2]) (rest := []) ⟨hx, hb, hml, hown, hts⟩ xP_S hK hX0 hS hP (c_X2_isPlank hj l x2 f t y13 hq14) (cwV 1 hts gX9_spent_X2_isPlank rfl rfl rfl (by decide +kernel) ⟨Nat.le_trans (Nat.le_of_ble_eq_true rfl) hR.1, Nat.le_trans (Nat.le_of_ble_eq_true rfl) hR.2⟩) (va_recv hK hP (ci := 2) (q0 := 3) rfl rfl) rfl hl.1 rfl (Nat.le_of_ble_eq_true rfl) ⟨Nat.zero_le _, Nat.zero_le _⟩ dX9_spent_17 (fun H locs hP hS => ?_)
      refine lv_if_ne (tgt := 25) hx hb dX9_spent_20 (by decide) (fun c20 => ?_) (fun c20 => ?_)
      · have hf := itF hf c20
        exact hk3 hf H locs ls hP hS (lv_sub hl [0, 1, 2] rfl)
      · have hf := itT hf c20
        refine lv_iconst (v := (-1)) hx hb dX9_spent_23 (by decide) ?_
        obtain rfl := Option.some.inj hf
        exact kr H locs ls 24 dX9_spent_24 hP hS
set_option maxHeartbeats 4000000 in
set_option maxRecDepth 100000 in
theorem c_X9_spent (hj : jP ad) (l : Launch) (N : Nat) (x1 : Int32) (x2 : Int32) (f : mM) (t : Int64) (r : Int32) (hf : q_X9_spent N x1 x2 f = some r) : Met l yX9_spent wsX9_spent ({ frames := 3, cells := 0, slots := 0, locals := 66 }) (va_Pc ([.ref (ad 0), .int x1, .int x2]) (pre D cy (wP ad cy) (xP ad sk sv) f t)) (va_Qi (fun (r2 : Int32) (u : mM × Int64) => r2 = r ∧ u = (f, t)) (atW D (wP ad cy)) (aP ad)) 0 0 (aP ad) := by
  refine Met.ofW (cc := cX9_spent) (maxL := 4) (ret := (some .int)) (by decide) rfl ?_
  intro p e s m args below meth c s₁ B hml hv
  obtain ⟨rfl, hP, hK, hX0⟩ := hv
  have hl := lv_entry ([.ref (ad 0), .int x1, .int x2]) (n := 4) (Nat.le_of_ble_eq_true rfl)
  rw [lg_entry_eq]
  generalize (lg_sl ([.ref (ad 0), .int x1, .int x2]) ++ List.replicate (4 - (lg_sl ([.ref (ad 0), .int x1, .int x2])).length) Slot.unset).toArray = ls at hl ⊢
  have hlocks := B.notSynchronized
  exact b_X9_spent ⟨B.exec, B.bytes, B.returns, hml, findClass_of_methodNamed B.named, atoms_spec (ws := wsX9_spent) B.pre, hlocks, hK, hX0⟩ hj ⟨Nat.le_refl _, Nat.le_refl _⟩ N x1 x2 f t r hf (fun H locs ls pc hd hP hS => W.iret B.exec B.bytes B.returns (fun t2 ht hW => ⟨⟨r, (f, t), rfl, ⟨rfl, rfl⟩, by show va_P D vwCl _ t2.heap; rw [ht]; exact hP⟩, hS.F ht⟩) hS.2.2 hd) s.heap [] ls hP va_S.rf hl
def q_X9_tell (N : Nat) (x1 : Int32) (f : mM) : Option (Int64 × mM) := bi (q_X9_isImage x1) (fun y1 => if y1 = 0 then some ((-1), f) else gi x1 2 (if (f 36 (Int32.toNatClampNeg x1)) = 0 then some ((-2), f) else if x1 = 0 then bi2 (q_X6_waysToTell_41_28 N f) (fun y4 f5 => some (y4, f5)) else if x1 = 1 then bi2 (q_X6_waysToTell_41_32 N f) (fun y7 f8 => some (y7, f8)) else none))
set_option maxHeartbeats 4000000 in
set_option maxRecDepth 100000 in
theorem b_X9_tell (C0 : cX p s m args meth c cX9_tell 2 (some .long) RX9 wsX9_tell D cy (xP ad sk sv)) (hj : jP ad) (hR : 3 ≤ R.frames ∧ 68 ≤ R.locals) (N : Nat) (x1 : Int32) (f : mM) (t : Int64) (r : Int64) (fR : mM) (hf : q_X9_tell N x1 f = some (r, fR)) (kr : ∀ (H : Heap) (locs : List Loc) (ls : Array Slot) (pc : Nat), decode cX9_tell pc = .ok (.lreturn, 1) → va_P D vwCl (wP ad cy fR t) H → va_S (aP ad) s.heap H locs → W p l e R s m args below meth c H locs 0 0 Q (F0 m pc ls [.long r])) (H : Heap) (locs : List Loc) (ls : Array Slot) (hP : va_P D vwCl (wP ad cy f t) H) (hS : va_S (aP ad) s.heap H locs) (hl : lv_has ls 2 [(0, .ref (ad 0)), (1, .int x1)]) : W p l e R s m args below meth c H locs 0 0 Q (F0 m 0 ls []) := by
  obtain ⟨hx, hb, hr, hml, hown, hts, hlocks, hK, hX0⟩ := id C0
  have lk43 := hts (.fieldLink RX9 43 "PlankNine" "kept" "[Z") (List.mem_of_getElem? (i := 2) rfl)
  have hiX9 : ∀ w ∈ u_ws RX9 TX9 11, w ∈ wsX9_tell := fun w h => List.mem_cons_of_mem _ (List.mem_append_left _ (List.mem_append_left _ (List.mem_append_left _ (List.mem_append_right _ h))))
  have lk73 := hts (.fieldLink RX9 73 "PlankNine" "tales" "LPlankNine$Tales;") (List.mem_of_getElem? (i := 3) rfl)
  have lk39 := hts (.fieldLink RX9 39 "PlankNine" "images" "[LPlankNine$Now;") (List.mem_of_getElem? (i := 4) rfl)
  unfold q_X9_tell at hf
  refine lv_iload_n hx hb dX9_tell_0 rfl (lv_at hl 1 rfl) ?_
  obtain ⟨y1, hq2, hf⟩ := bi_out hf
  refine cw_si (As := [.int x1]) (rest := []) ⟨hx, hb, hml, hown, hts⟩ xP_S hK hX0 hS hP (c_X9_isImage hj l x1 f t y1 hq2) (va_cwS 1 hts gX9_tell_X9_isImage rfl rfl rfl (by decide +kernel) ⟨Nat.le_trans (Nat.le_of_ble_eq_true rfl) hR.1, Nat.le_trans (Nat.le_of_ble_eq_true rfl) hR.2⟩) rfl hl.1 rfl (Nat.le_of_ble_eq_true rfl) ⟨Nat.zero_le _, Nat.zero_le _⟩ dX9_tell_1 (fun H locs hP hS => ?_)
  refine lv_if_ne (tgt := 11) hx hb dX9_tell_4 (by decide) (fun c4 => ?_) (fun c4 => ?_)
  · have hf := itF hf c4
    refine lv_aload_n hx hb dX9_tell_11 rfl (lv_at hl 0 rfl) ?_
    refine va_get (D := D) (ci := 9) (v := .ref (ad 36)) (C := RX9) (T := TX9) (N := 11) hx hb hts hiX9 hown hK hP 0 rfl rfl 5 (by decide) lk43 (fun _ h9 => h9) rfl dX9_tell_12 ?_
    refine lv_iload_n hx hb dX9_tell_15 rfl (lv_at hl 1 rfl) ?_
    obtain ⟨hin3, hf⟩ := gi_out hf
    refine va_zald hx hb hK hP 36 2 rfl rfl hin3 dX9_tell_16 ?_
    refine lv_if_eq (tgt := 36) hx hb dX9_tell_17 (by decide) (fun c17 => ?_) (fun c17 => ?_)
    · have hf := itT hf c17
      refine lv_ldc2 (v := (-2)) hx hb hown (hts (.constantLong RX9 238 (-2)) (List.mem_of_getElem? (i := 5) rfl)) dX9_tell_36 ?_
      obtain ⟨rfl, rfl⟩ := Prod.mk.inj (Option.some.inj hf)
      exact kr H locs ls 39 dX9_tell_39 hP hS
    · have hf := itF hf c17
      refine lv_aload_n hx hb dX9_tell_20 rfl (lv_at hl 0 rfl) ?_
      refine va_get (D := D) (ci := 9) (v := .ref (ad 41)) (C := RX9) (T := TX9) (N := 11) hx hb hts hiX9 hown hK hP 0 rfl rfl 9 (by decide) lk73 (fun _ h9 => h9) rfl dX9_tell_21 ?_
      refine lv_aload_n hx hb dX9_tell_24 rfl (lv_at hl 0 rfl) ?_
      refine va_get (D := D) (ci := 9) (v := .ref (ad 27)) (C := RX9) (T := TX9) (N := 11) hx hb hts hiX9 hown hK hP 0 rfl rfl 4 (by decide) lk39 (fun _ h9 => h9) rfl dX9_tell_25 ?_
      refine lv_iload_n hx hb dX9_tell_28 rfl (lv_at hl 1 rfl) ?_
      by_cases c29 : x1 = 0
      · have hf := itT hf c29
        refine va_aldq hx hb hK hP 27 3 rfl rfl (by rw [c29]; unfold vp_in; decide) dX9_tell_29 ?_
        rw [c29]
        show W p l e R s m args below meth c H locs 0 0 Q (F0 m 30 ls [.ref (ad 28), .ref (ad 41)])
        obtain ⟨y4, f5, hq6, hf⟩ := bi2_out hf
        refine cw_vl (As := [.ref (ad 28)]) (rest := []) ⟨hx, hb, hml, hown, hts⟩ xP_S hK hX0 hS hP (c_X6_waysToTell_41_28 hj l N f t y4 f5 hq6) (cwV 1 hts gX9_tell_X6_waysToTell rfl rfl rfl (by decide +kernel) ⟨Nat.le_trans (Nat.le_of_ble_eq_true rfl) hR.1, Nat.le_trans (Nat.le_of_ble_eq_true rfl) hR.2⟩) (va_recv hK hP (ci := 6) (q0 := 41) rfl rfl) rfl hl.1 rfl (Nat.le_of_ble_eq_true rfl) ⟨Nat.zero_le _, Nat.zero_le _⟩ dX9_tell_30 (fun H locs hP hS => ?_)
        refine lv_goto (tgt := 39) hx hb dX9_tell_33 (by decide) ?_
        obtain ⟨rfl, rfl⟩ := Prod.mk.inj (Option.some.inj hf)
        exact kr H locs ls 39 dX9_tell_39 hP hS
      · have hf := itF hf c29
        by_cases cc29 : x1 = 1
        · have hf := itT hf cc29
          refine va_aldq hx hb hK hP 27 3 rfl rfl (by rw [cc29]; unfold vp_in; decide) dX9_tell_29 ?_
          rw [cc29]
          show W p l e R s m args below meth c H locs 0 0 Q (F0 m 30 ls [.ref (ad 32), .ref (ad 41)])
          obtain ⟨y7, f8, hq9, hf⟩ := bi2_out hf
          refine cw_vl (As := [.ref (ad 32)]) (rest := []) ⟨hx, hb, hml, hown, hts⟩ xP_S hK hX0 hS hP (c_X6_waysToTell_41_32 hj l N f t y7 f8 hq9) (cwV 1 hts gX9_tell_X6_waysToTell rfl rfl rfl (by decide +kernel) ⟨Nat.le_trans (Nat.le_of_ble_eq_true rfl) hR.1, Nat.le_trans (Nat.le_of_ble_eq_true rfl) hR.2⟩) (va_recv hK hP (ci := 6) (q0 := 41) rfl rfl) rfl hl.1 rfl (Nat.le_of_ble_eq_true rfl) ⟨Nat.zero_le _, Nat.zero_le _⟩ dX9_tell_30 (fun H locs hP hS => ?_)
          refine lv_goto (tgt := 39) hx hb dX9_tell_33 (by decide) ?_
          obtain ⟨rfl, rfl⟩ := Prod.mk.inj (Option.some.inj hf)
          exact kr H locs ls 39 dX9_tell_39 hP hS
        · exact no_none (itF hf cc29)
  · have hf := itT hf c4
    refine lv_ldc2 (v := (-1)) hx hb hown (hts (.constantLong RX9 232 (-1)) (List.mem_of_getElem? (i := 1) rfl)) dX9_tell_7 ?_
    obtain ⟨rfl, rfl⟩ := Prod.mk.inj (Option.some.inj hf)
    exact kr H locs ls 10 dX9_tell_10 hP hS
set_option maxHeartbeats 4000000 in
set_option maxRecDepth 100000 in
theorem c_X9_tell (hj : jP ad) (l : Launch) (N : Nat) (x1 : Int32) (f : mM) (t : Int64) (r : Int64) (fR : mM) (hf : q_X9_tell N x1 f = some (r, fR)) : Met l yX9_tell wsX9_tell ({ frames := 3, cells := 0, slots := 0, locals := 68 }) (va_Pc ([.ref (ad 0), .int x1]) (pre D cy (wP ad cy) (xP ad sk sv) f t)) (va_Ql (fun (r2 : Int64) (u : mM × Int64) => r2 = r ∧ u = (fR, t)) (atW D (wP ad cy)) (aP ad)) 0 0 (aP ad) := by
  refine Met.ofW (cc := cX9_tell) (maxL := 2) (ret := (some .long)) (by decide) rfl ?_
  intro p e s m args below meth c s₁ B hml hv
  obtain ⟨rfl, hP, hK, hX0⟩ := hv
  have hl := lv_entry ([.ref (ad 0), .int x1]) (n := 2) (Nat.le_of_ble_eq_true rfl)
  rw [lg_entry_eq]
  generalize (lg_sl ([.ref (ad 0), .int x1]) ++ List.replicate (2 - (lg_sl ([.ref (ad 0), .int x1])).length) Slot.unset).toArray = ls at hl ⊢
  have hlocks := B.notSynchronized
  exact b_X9_tell ⟨B.exec, B.bytes, B.returns, hml, findClass_of_methodNamed B.named, atoms_spec (ws := wsX9_tell) B.pre, hlocks, hK, hX0⟩ hj ⟨Nat.le_refl _, Nat.le_refl _⟩ N x1 f t r fR hf (fun H locs ls pc hd hP hS => W.lret B.exec B.bytes B.returns (fun t2 ht hW => ⟨⟨r, (fR, t), rfl, ⟨rfl, rfl⟩, by show va_P D vwCl _ t2.heap; rw [ht]; exact hP⟩, hS.F ht⟩) hS.2.2 hd) s.heap [] ls hP va_S.rf hl
def q_X9_rate (N : Nat) (x1 : Int32) (x2 : Int32) (f : mM) (t : Int64) : Option (Int32 × Int64) := bi (q_X2_isPerson x2 f) (fun y1 => if y1 = 0 then some ((-1000000), t) else bi2 (q_X1_rateAs N x1 x2 f t) (fun y3 t4 => some (y3, t4)))
set_option maxHeartbeats 4000000 in
set_option maxRecDepth 100000 in
theorem b_X9_rate (C0 : cX p s m args meth c cX9_rate 3 (some .int) RX9 wsX9_rate D cy (xP ad sk sv)) (hj : jP ad) (hR : 4 ≤ R.frames ∧ 87 ≤ R.locals) (N : Nat) (x1 : Int32) (x2 : Int32) (f : mM) (t : Int64) (r : Int32) (tR : Int64) (hf : q_X9_rate N x1 x2 f t = some (r, tR)) (kr : ∀ (H : Heap) (locs : List Loc) (ls : Array Slot) (pc : Nat), decode cX9_rate pc = .ok (.ireturn, 1) → va_P D vwCl (wP ad cy f tR) H → va_S (aP ad) s.heap H locs → W p l e R s m args below meth c H locs 0 0 Q (F0 m pc ls [.int r])) (H : Heap) (locs : List Loc) (ls : Array Slot) (hP : va_P D vwCl (wP ad cy f t) H) (hS : va_S (aP ad) s.heap H locs) (hl : lv_has ls 3 [(0, .ref (ad 0)), (1, .int x1), (2, .int x2)]) : W p l e R s m args below meth c H locs 0 0 Q (F0 m 0 ls []) := by
  obtain ⟨hx, hb, hr, hml, hown, hts, hlocks, hK, hX0⟩ := id C0
  have lk19 := hts (.fieldLink RX9 19 "PlankNine" "told" "LPlankNine$Marsh;") (List.mem_of_getElem? (i := 1) rfl)
  have hiX9 : ∀ w ∈ u_ws RX9 TX9 11, w ∈ wsX9_rate := fun w h => List.mem_cons_of_mem _ (List.mem_append_left _ (List.mem_append_left _ (List.mem_append_left _ (List.mem_append_right _ h))))
  have lk80 := hts (.fieldLink RX9 80 "PlankNine" "kinds" "LPlankNine$Kinds;") (List.mem_of_getElem? (i := 2) rfl)
  unfold q_X9_rate at hf
  refine lv_aload_n hx hb dX9_rate_0 rfl (lv_at hl 0 rfl) ?_
  refine va_get (D := D) (ci := 9) (v := .ref (ad 3)) (C := RX9) (T := TX9) (N := 11) hx hb hts hiX9 hown hK hP 0 rfl rfl 1 (by decide) lk19 (fun _ h9 => h9) rfl dX9_rate_1 ?_
  refine lv_iload_n hx hb dX9_rate_4 rfl (lv_at hl 2 rfl) ?_
  obtain ⟨y1, hq2, hf⟩ := bi_out hf
  refine cw_vi (As := [.int x2]) (rest := []) ⟨hx, hb, hml, hown, hts⟩ xP_S hK hX0 hS hP (c_X2_isPerson hj l x2 f t y1 hq2) (cwV 1 hts gX9_rate_X2_isPerson rfl rfl rfl (by decide +kernel) ⟨Nat.le_trans (Nat.le_of_ble_eq_true rfl) hR.1, Nat.le_trans (Nat.le_of_ble_eq_true rfl) hR.2⟩) (va_recv hK hP (ci := 2) (q0 := 3) rfl rfl) rfl hl.1 rfl (Nat.le_of_ble_eq_true rfl) ⟨Nat.zero_le _, Nat.zero_le _⟩ dX9_rate_5 (fun H locs hP hS => ?_)
  refine lv_if_eq (tgt := 23) hx hb dX9_rate_8 (by decide) (fun c8 => ?_) (fun c8 => ?_)
  · have hf := itT hf c8
    refine lv_ldc (v := (-1000000)) hx hb hown (hts (.constant RX9 243 (-1000000)) (List.mem_of_getElem? (i := 3) rfl)) dX9_rate_23 ?_
    obtain ⟨rfl, rfl⟩ := Prod.mk.inj (Option.some.inj hf)
    exact kr H locs ls 25 dX9_rate_25 hP hS
  · have hf := itF hf c8
    refine lv_aload_n hx hb dX9_rate_11 rfl (lv_at hl 0 rfl) ?_
    refine va_get (D := D) (ci := 9) (v := .ref (ad 43)) (C := RX9) (T := TX9) (N := 11) hx hb hts hiX9 hown hK hP 0 rfl rfl 10 (by decide) lk80 (fun _ h9 => h9) rfl dX9_rate_12 ?_
    refine lv_iload_n hx hb dX9_rate_15 rfl (lv_at hl 1 rfl) ?_
    refine lv_iload_n hx hb dX9_rate_16 rfl (lv_at hl 2 rfl) ?_
    obtain ⟨y3, t4, hq5, hf⟩ := bi2_out hf
    refine cw_vi (As := [.int x1, .int x2]) (rest := []) ⟨hx, hb, hml, hown, hts⟩ xP_S hK hX0 hS hP (c_X1_rateAs hj l N x1 x2 f t y3 t4 hq5) (cwV 2 hts gX9_rate_X1_rateAs rfl rfl rfl (by decide +kernel) ⟨Nat.le_trans (Nat.le_of_ble_eq_true rfl) hR.1, Nat.le_trans (Nat.le_of_ble_eq_true rfl) hR.2⟩) (va_recv hK hP (ci := 1) (q0 := 43) rfl rfl) rfl hl.1 rfl (Nat.le_of_ble_eq_true rfl) ⟨Nat.zero_le _, Nat.zero_le _⟩ dX9_rate_17 (fun H locs hP hS => ?_)
    refine lv_goto (tgt := 25) hx hb dX9_rate_20 (by decide) ?_
    obtain ⟨rfl, rfl⟩ := Prod.mk.inj (Option.some.inj hf)
    exact kr H locs ls 25 dX9_rate_25 hP hS
set_option maxHeartbeats 4000000 in
set_option maxRecDepth 100000 in
theorem c_X9_rate (hj : jP ad) (l : Launch) (N : Nat) (x1 : Int32) (x2 : Int32) (f : mM) (t : Int64) (r : Int32) (tR : Int64) (hf : q_X9_rate N x1 x2 f t = some (r, tR)) : Met l yX9_rate wsX9_rate ({ frames := 4, cells := 0, slots := 0, locals := 87 }) (va_Pc ([.ref (ad 0), .int x1, .int x2]) (pre D cy (wP ad cy) (xP ad sk sv) f t)) (va_Qi (fun (r2 : Int32) (u : mM × Int64) => r2 = r ∧ u = (f, tR)) (atW D (wP ad cy)) (aP ad)) 0 0 (aP ad) := by
  refine Met.ofW (cc := cX9_rate) (maxL := 3) (ret := (some .int)) (by decide) rfl ?_
  intro p e s m args below meth c s₁ B hml hv
  obtain ⟨rfl, hP, hK, hX0⟩ := hv
  have hl := lv_entry ([.ref (ad 0), .int x1, .int x2]) (n := 3) (Nat.le_of_ble_eq_true rfl)
  rw [lg_entry_eq]
  generalize (lg_sl ([.ref (ad 0), .int x1, .int x2]) ++ List.replicate (3 - (lg_sl ([.ref (ad 0), .int x1, .int x2])).length) Slot.unset).toArray = ls at hl ⊢
  have hlocks := B.notSynchronized
  exact b_X9_rate ⟨B.exec, B.bytes, B.returns, hml, findClass_of_methodNamed B.named, atoms_spec (ws := wsX9_rate) B.pre, hlocks, hK, hX0⟩ hj ⟨Nat.le_refl _, Nat.le_refl _⟩ N x1 x2 f t r tR hf (fun H locs ls pc hd hP hS => W.iret B.exec B.bytes B.returns (fun t2 ht hW => ⟨⟨r, (f, tR), rfl, ⟨rfl, rfl⟩, by show va_P D vwCl _ t2.heap; rw [ht]; exact hP⟩, hS.F ht⟩) hS.2.2 hd) s.heap [] ls hP va_S.rf hl
def q_X9_keep (N : Nat) (x1 : Int32) (f : mM) : Option (Int32 × mM) := bi (q_X9_isImage x1) (fun y1 => if y1 = 0 then some ((-1), f) else if x1 = 0 then bi (q_X3_becomes_28_23 f) (fun f3 => gi x1 2 (sq (st2 f3 36 (Int32.toNatClampNeg x1) (vp_nar .boolean 1)) (fun f6 => bi (q_X3_notUnder N f6) (fun y7 => some (y7, f6))))) else if x1 = 1 then bi (q_X3_becomes_32_23 f) (fun f9 => gi x1 2 (sq (st2 f9 36 (Int32.toNatClampNeg x1) (vp_nar .boolean 1)) (fun f12 => bi (q_X3_notUnder N f12) (fun y13 => some (y13, f12))))) else none)
set_option maxHeartbeats 4000000 in
set_option maxRecDepth 100000 in
theorem b_X9_keep (C0 : cX p s m args meth c cX9_keep 2 (some .int) RX9 wsX9_keep D cy (xP ad sk sv)) (hj : jP ad) (hR : 2 ≤ R.frames ∧ 70 ≤ R.locals) (N : Nat) (x1 : Int32) (f : mM) (t : Int64) (r : Int32) (fR : mM) (hf : q_X9_keep N x1 f = some (r, fR)) (kr : ∀ (H : Heap) (locs : List Loc) (ls : Array Slot) (pc : Nat), decode cX9_keep pc = .ok (.ireturn, 1) → va_P D vwCl (wP ad cy fR t) H → va_S (aP ad) s.heap H locs → W p l e R s m args below meth c H locs 0 0 Q (F0 m pc ls [.int r])) (H : Heap) (locs : List Loc) (ls : Array Slot) (hP : va_P D vwCl (wP ad cy f t) H) (hS : va_S (aP ad) s.heap H locs) (hl : lv_has ls 2 [(0, .ref (ad 0)), (1, .int x1)]) : W p l e R s m args below meth c H locs 0 0 Q (F0 m 0 ls []) := by
  obtain ⟨hx, hb, hr, hml, hown, hts, hlocks, hK, hX0⟩ := id C0
  have lk39 := hts (.fieldLink RX9 39 "PlankNine" "images" "[LPlankNine$Now;") (List.mem_of_getElem? (i := 1) rfl)
  have hiX9 : ∀ w ∈ u_ws RX9 TX9 11, w ∈ wsX9_keep := fun w h => List.mem_cons_of_mem _ (List.mem_append_left _ (List.mem_append_right _ h))
  have lk35 := hts (.fieldLink RX9 35 "PlankNine" "now" "LPlankNine$Now;") (List.mem_of_getElem? (i := 2) rfl)
  have lk43 := hts (.fieldLink RX9 43 "PlankNine" "kept" "[Z") (List.mem_of_getElem? (i := 3) rfl)
  unfold q_X9_keep at hf
  refine lv_iload_n hx hb dX9_keep_0 rfl (lv_at hl 1 rfl) ?_
  obtain ⟨y1, hq2, hf⟩ := bi_out hf
  refine cw_si (As := [.int x1]) (rest := []) ⟨hx, hb, hml, hown, hts⟩ xP_S hK hX0 hS hP (c_X9_isImage hj l x1 f t y1 hq2) (va_cwS 1 hts gX9_keep_X9_isImage rfl rfl rfl (by decide +kernel) ⟨Nat.le_trans (Nat.le_of_ble_eq_true rfl) hR.1, Nat.le_trans (Nat.le_of_ble_eq_true rfl) hR.2⟩) rfl hl.1 rfl (Nat.le_of_ble_eq_true rfl) ⟨Nat.zero_le _, Nat.zero_le _⟩ dX9_keep_1 (fun H locs hP hS => ?_)
  refine lv_if_ne (tgt := 9) hx hb dX9_keep_4 (by decide) (fun c4 => ?_) (fun c4 => ?_)
  · have hf := itF hf c4
    refine lv_aload_n hx hb dX9_keep_9 rfl (lv_at hl 0 rfl) ?_
    refine va_get (D := D) (ci := 9) (v := .ref (ad 27)) (C := RX9) (T := TX9) (N := 11) hx hb hts hiX9 hown hK hP 0 rfl rfl 4 (by decide) lk39 (fun _ h9 => h9) rfl dX9_keep_10 ?_
    refine lv_iload_n hx hb dX9_keep_13 rfl (lv_at hl 1 rfl) ?_
    by_cases c14 : x1 = 0
    · have hf := itT hf c14
      refine va_aldq hx hb hK hP 27 3 rfl rfl (by rw [c14]; unfold vp_in; decide) dX9_keep_14 ?_
      rw [c14]
      show W p l e R s m args below meth c H locs 0 0 Q (F0 m 15 ls [.ref (ad 28)])
      refine lv_aload_n hx hb dX9_keep_15 rfl (lv_at hl 0 rfl) ?_
      refine va_get (D := D) (ci := 9) (v := .ref (ad 23)) (C := RX9) (T := TX9) (N := 11) hx hb hts hiX9 hown hK hP 0 rfl rfl 3 (by decide) lk35 (fun _ h9 => h9) rfl dX9_keep_16 ?_
      obtain ⟨f3, hq4, hf⟩ := bi_out hf
      refine cw_vv (As := [.ref (ad 23)]) (rest := []) ⟨hx, hb, hml, hown, hts⟩ xP_S hK hX0 hS hP (c_X3_becomes_28_23 hj l f t f3 hq4) (cwV 1 hts gX9_keep_X3_becomes rfl rfl rfl (by decide +kernel) ⟨Nat.le_trans (Nat.le_of_ble_eq_true rfl) hR.1, Nat.le_trans (Nat.le_of_ble_eq_true rfl) hR.2⟩) (va_recv hK hP (ci := 3) (q0 := 28) rfl rfl) rfl hl.1 rfl (Nat.le_of_ble_eq_true rfl) ⟨Nat.zero_le _, Nat.zero_le _⟩ dX9_keep_19 (fun H locs hP hS => ?_)
      refine lv_aload_n hx hb dX9_keep_22 rfl (lv_at hl 0 rfl) ?_
      refine va_get (D := D) (ci := 9) (v := .ref (ad 36)) (C := RX9) (T := TX9) (N := 11) hx hb hts hiX9 hown hK hP 0 rfl rfl 5 (by decide) lk43 (fun _ h9 => h9) rfl dX9_keep_23 ?_
      refine lv_iload_n hx hb dX9_keep_26 rfl (lv_at hl 1 rfl) ?_
      refine lv_iconst (v := 1) hx hb dX9_keep_27 (by decide) ?_
      obtain ⟨hin5, hf⟩ := gi_out hf
      obtain ⟨f6, ef6, hf⟩ := sq_out hf
      refine va_zast hx hb hK hP (dP hj f3 t) hS 36 2 rfl rfl hin5 dX9_keep_28 (fun H locs hP _ hS => ?_)
      have hP := sP_36 ef6 hP
      refine lv_aload_n hx hb dX9_keep_29 rfl (lv_at hl 0 rfl) ?_
      refine va_get (D := D) (ci := 9) (v := .ref (ad 23)) (C := RX9) (T := TX9) (N := 11) hx hb hts hiX9 hown hK hP 0 rfl rfl 3 (by decide) lk35 (fun _ h9 => h9) rfl dX9_keep_30 ?_
      obtain ⟨y7, hq8, hf⟩ := bi_out hf
      refine cw_vi (As := []) (rest := []) ⟨hx, hb, hml, hown, hts⟩ xP_S hK hX0 hS hP (c_X3_notUnder hj l N f6 t y7 hq8) (cwV 0 hts gX9_keep_X3_notUnder rfl rfl rfl (by decide +kernel) ⟨Nat.le_trans (Nat.le_of_ble_eq_true rfl) hR.1, Nat.le_trans (Nat.le_of_ble_eq_true rfl) hR.2⟩) (va_recv hK hP (ci := 3) (q0 := 23) rfl rfl) rfl hl.1 rfl (Nat.le_of_ble_eq_true rfl) ⟨Nat.zero_le _, Nat.zero_le _⟩ dX9_keep_33 (fun H locs hP hS => ?_)
      obtain ⟨rfl, rfl⟩ := Prod.mk.inj (Option.some.inj hf)
      exact kr H locs ls 36 dX9_keep_36 hP hS
    · have hf := itF hf c14
      by_cases cc14 : x1 = 1
      · have hf := itT hf cc14
        refine va_aldq hx hb hK hP 27 3 rfl rfl (by rw [cc14]; unfold vp_in; decide) dX9_keep_14 ?_
        rw [cc14]
        show W p l e R s m args below meth c H locs 0 0 Q (F0 m 15 ls [.ref (ad 32)])
        refine lv_aload_n hx hb dX9_keep_15 rfl (lv_at hl 0 rfl) ?_
        refine va_get (D := D) (ci := 9) (v := .ref (ad 23)) (C := RX9) (T := TX9) (N := 11) hx hb hts hiX9 hown hK hP 0 rfl rfl 3 (by decide) lk35 (fun _ h9 => h9) rfl dX9_keep_16 ?_
        obtain ⟨f9, hq10, hf⟩ := bi_out hf
        refine cw_vv (As := [.ref (ad 23)]) (rest := []) ⟨hx, hb, hml, hown, hts⟩ xP_S hK hX0 hS hP (c_X3_becomes_32_23 hj l f t f9 hq10) (cwV 1 hts gX9_keep_X3_becomes rfl rfl rfl (by decide +kernel) ⟨Nat.le_trans (Nat.le_of_ble_eq_true rfl) hR.1, Nat.le_trans (Nat.le_of_ble_eq_true rfl) hR.2⟩) (va_recv hK hP (ci := 3) (q0 := 32) rfl rfl) rfl hl.1 rfl (Nat.le_of_ble_eq_true rfl) ⟨Nat.zero_le _, Nat.zero_le _⟩ dX9_keep_19 (fun H locs hP hS => ?_)
        refine lv_aload_n hx hb dX9_keep_22 rfl (lv_at hl 0 rfl) ?_
        refine va_get (D := D) (ci := 9) (v := .ref (ad 36)) (C := RX9) (T := TX9) (N := 11) hx hb hts hiX9 hown hK hP 0 rfl rfl 5 (by decide) lk43 (fun _ h9 => h9) rfl dX9_keep_23 ?_
        refine lv_iload_n hx hb dX9_keep_26 rfl (lv_at hl 1 rfl) ?_
        refine lv_iconst (v := 1) hx hb dX9_keep_27 (by decide) ?_
        obtain ⟨hin11, hf⟩ := gi_out hf
        obtain ⟨f12, ef12, hf⟩ := sq_out hf
        refine va_zast hx hb hK hP (dP hj f9 t) hS 36 2 rfl rfl hin11 dX9_keep_28 (fun H locs hP _ hS => ?_)
        have hP := sP_36 ef12 hP
        refine lv_aload_n hx hb dX9_keep_29 rfl (lv_at hl 0 rfl) ?_
        refine va_get (D := D) (ci := 9) (v := .ref (ad 23)) (C := RX9) (T := TX9) (N := 11) hx hb hts hiX9 hown hK hP 0 rfl rfl 3 (by decide) lk35 (fun _ h9 => h9) rfl dX9_keep_30 ?_
        obtain ⟨y13, hq14, hf⟩ := bi_out hf
        refine cw_vi (As := []) (rest := []) ⟨hx, hb, hml, hown, hts⟩ xP_S hK hX0 hS hP (c_X3_notUnder hj l N f12 t y13 hq14) (cwV 0 hts gX9_keep_X3_notUnder rfl rfl rfl (by decide +kernel) ⟨Nat.le_trans (Nat.le_of_ble_eq_true rfl) hR.1, Nat.le_trans (Nat.le_of_ble_eq_true rfl) hR.2⟩) (va_recv hK hP (ci := 3) (q0 := 23) rfl rfl) rfl hl.1 rfl (Nat.le_of_ble_eq_true rfl) ⟨Nat.zero_le _, Nat.zero_le _⟩ dX9_keep_33 (fun H locs hP hS => ?_)
        obtain ⟨rfl, rfl⟩ := Prod.mk.inj (Option.some.inj hf)
        exact kr H locs ls 36 dX9_keep_36 hP hS
      · exact no_none (itF hf cc14)
  · have hf := itT hf c4
    refine lv_iconst (v := (-1)) hx hb dX9_keep_7 (by decide) ?_
    obtain ⟨rfl, rfl⟩ := Prod.mk.inj (Option.some.inj hf)
    exact kr H locs ls 8 dX9_keep_8 hP hS
set_option maxHeartbeats 4000000 in
set_option maxRecDepth 100000 in
theorem c_X9_keep (hj : jP ad) (l : Launch) (N : Nat) (x1 : Int32) (f : mM) (t : Int64) (r : Int32) (fR : mM) (hf : q_X9_keep N x1 f = some (r, fR)) : Met l yX9_keep wsX9_keep ({ frames := 2, cells := 0, slots := 0, locals := 70 }) (va_Pc ([.ref (ad 0), .int x1]) (pre D cy (wP ad cy) (xP ad sk sv) f t)) (va_Qi (fun (r2 : Int32) (u : mM × Int64) => r2 = r ∧ u = (fR, t)) (atW D (wP ad cy)) (aP ad)) 0 0 (aP ad) := by
  refine Met.ofW (cc := cX9_keep) (maxL := 2) (ret := (some .int)) (by decide) rfl ?_
  intro p e s m args below meth c s₁ B hml hv
  obtain ⟨rfl, hP, hK, hX0⟩ := hv
  have hl := lv_entry ([.ref (ad 0), .int x1]) (n := 2) (Nat.le_of_ble_eq_true rfl)
  rw [lg_entry_eq]
  generalize (lg_sl ([.ref (ad 0), .int x1]) ++ List.replicate (2 - (lg_sl ([.ref (ad 0), .int x1])).length) Slot.unset).toArray = ls at hl ⊢
  have hlocks := B.notSynchronized
  exact b_X9_keep ⟨B.exec, B.bytes, B.returns, hml, findClass_of_methodNamed B.named, atoms_spec (ws := wsX9_keep) B.pre, hlocks, hK, hX0⟩ hj ⟨Nat.le_refl _, Nat.le_refl _⟩ N x1 f t r fR hf (fun H locs ls pc hd hP hS => W.iret B.exec B.bytes B.returns (fun t2 ht hW => ⟨⟨r, (fR, t), rfl, ⟨rfl, rfl⟩, by show va_P D vwCl _ t2.heap; rw [ht]; exact hP⟩, hS.F ht⟩) hS.2.2 hd) s.heap [] ls hP va_S.rf hl
def q_X9_back (N : Nat) (x1 : Int32) (f : mM) : Option (Int32 × mM) := bi (q_X9_isImage x1) (fun y1 => if y1 = 0 then some ((-1), f) else gi x1 2 (if (f 36 (Int32.toNatClampNeg x1)) = 0 then some ((-2), f) else if x1 = 0 then bi (q_X3_becomes_23_28 f) (fun f4 => bi (q_X3_notUnder N f4) (fun y6 => some (y6, f4))) else if x1 = 1 then bi (q_X3_becomes_23_32 f) (fun f8 => bi (q_X3_notUnder N f8) (fun y10 => some (y10, f8))) else none))
set_option maxHeartbeats 4000000 in
set_option maxRecDepth 100000 in
theorem b_X9_back (C0 : cX p s m args meth c cX9_back 2 (some .int) RX9 wsX9_back D cy (xP ad sk sv)) (hj : jP ad) (hR : 2 ≤ R.frames ∧ 70 ≤ R.locals) (N : Nat) (x1 : Int32) (f : mM) (t : Int64) (r : Int32) (fR : mM) (hf : q_X9_back N x1 f = some (r, fR)) (kr : ∀ (H : Heap) (locs : List Loc) (ls : Array Slot) (pc : Nat), decode cX9_back pc = .ok (.ireturn, 1) → va_P D vwCl (wP ad cy fR t) H → va_S (aP ad) s.heap H locs → W p l e R s m args below meth c H locs 0 0 Q (F0 m pc ls [.int r])) (H : Heap) (locs : List Loc) (ls : Array Slot) (hP : va_P D vwCl (wP ad cy f t) H) (hS : va_S (aP ad) s.heap H locs) (hl : lv_has ls 2 [(0, .ref (ad 0)), (1, .int x1)]) : W p l e R s m args below meth c H locs 0 0 Q (F0 m 0 ls []) := by
  obtain ⟨hx, hb, hr, hml, hown, hts, hlocks, hK, hX0⟩ := id C0
  have lk43 := hts (.fieldLink RX9 43 "PlankNine" "kept" "[Z") (List.mem_of_getElem? (i := 1) rfl)
  have hiX9 : ∀ w ∈ u_ws RX9 TX9 11, w ∈ wsX9_back := fun w h => List.mem_cons_of_mem _ (List.mem_append_left _ (List.mem_append_right _ h))
  have lk35 := hts (.fieldLink RX9 35 "PlankNine" "now" "LPlankNine$Now;") (List.mem_of_getElem? (i := 2) rfl)
  have lk39 := hts (.fieldLink RX9 39 "PlankNine" "images" "[LPlankNine$Now;") (List.mem_of_getElem? (i := 3) rfl)
  unfold q_X9_back at hf
  refine lv_iload_n hx hb dX9_back_0 rfl (lv_at hl 1 rfl) ?_
  obtain ⟨y1, hq2, hf⟩ := bi_out hf
  refine cw_si (As := [.int x1]) (rest := []) ⟨hx, hb, hml, hown, hts⟩ xP_S hK hX0 hS hP (c_X9_isImage hj l x1 f t y1 hq2) (va_cwS 1 hts gX9_back_X9_isImage rfl rfl rfl (by decide +kernel) ⟨Nat.le_trans (Nat.le_of_ble_eq_true rfl) hR.1, Nat.le_trans (Nat.le_of_ble_eq_true rfl) hR.2⟩) rfl hl.1 rfl (Nat.le_of_ble_eq_true rfl) ⟨Nat.zero_le _, Nat.zero_le _⟩ dX9_back_1 (fun H locs hP hS => ?_)
  refine lv_if_ne (tgt := 9) hx hb dX9_back_4 (by decide) (fun c4 => ?_) (fun c4 => ?_)
  · have hf := itF hf c4
    refine lv_aload_n hx hb dX9_back_9 rfl (lv_at hl 0 rfl) ?_
    refine va_get (D := D) (ci := 9) (v := .ref (ad 36)) (C := RX9) (T := TX9) (N := 11) hx hb hts hiX9 hown hK hP 0 rfl rfl 5 (by decide) lk43 (fun _ h9 => h9) rfl dX9_back_10 ?_
    refine lv_iload_n hx hb dX9_back_13 rfl (lv_at hl 1 rfl) ?_
    obtain ⟨hin3, hf⟩ := gi_out hf
    refine va_zald hx hb hK hP 36 2 rfl rfl hin3 dX9_back_14 ?_
    refine lv_if_ne (tgt := 21) hx hb dX9_back_15 (by decide) (fun c15 => ?_) (fun c15 => ?_)
    · have hf := itF hf c15
      refine lv_aload_n hx hb dX9_back_21 rfl (lv_at hl 0 rfl) ?_
      refine va_get (D := D) (ci := 9) (v := .ref (ad 23)) (C := RX9) (T := TX9) (N := 11) hx hb hts hiX9 hown hK hP 0 rfl rfl 3 (by decide) lk35 (fun _ h9 => h9) rfl dX9_back_22 ?_
      refine lv_aload_n hx hb dX9_back_25 rfl (lv_at hl 0 rfl) ?_
      refine va_get (D := D) (ci := 9) (v := .ref (ad 27)) (C := RX9) (T := TX9) (N := 11) hx hb hts hiX9 hown hK hP 0 rfl rfl 4 (by decide) lk39 (fun _ h9 => h9) rfl dX9_back_26 ?_
      refine lv_iload_n hx hb dX9_back_29 rfl (lv_at hl 1 rfl) ?_
      by_cases c30 : x1 = 0
      · have hf := itT hf c30
        refine va_aldq hx hb hK hP 27 3 rfl rfl (by rw [c30]; unfold vp_in; decide) dX9_back_30 ?_
        rw [c30]
        show W p l e R s m args below meth c H locs 0 0 Q (F0 m 31 ls [.ref (ad 28), .ref (ad 23)])
        obtain ⟨f4, hq5, hf⟩ := bi_out hf
        refine cw_vv (As := [.ref (ad 28)]) (rest := []) ⟨hx, hb, hml, hown, hts⟩ xP_S hK hX0 hS hP (c_X3_becomes_23_28 hj l f t f4 hq5) (cwV 1 hts gX9_back_X3_becomes rfl rfl rfl (by decide +kernel) ⟨Nat.le_trans (Nat.le_of_ble_eq_true rfl) hR.1, Nat.le_trans (Nat.le_of_ble_eq_true rfl) hR.2⟩) (va_recv hK hP (ci := 3) (q0 := 23) rfl rfl) rfl hl.1 rfl (Nat.le_of_ble_eq_true rfl) ⟨Nat.zero_le _, Nat.zero_le _⟩ dX9_back_31 (fun H locs hP hS => ?_)
        refine lv_aload_n hx hb dX9_back_34 rfl (lv_at hl 0 rfl) ?_
        refine va_get (D := D) (ci := 9) (v := .ref (ad 23)) (C := RX9) (T := TX9) (N := 11) hx hb hts hiX9 hown hK hP 0 rfl rfl 3 (by decide) lk35 (fun _ h9 => h9) rfl dX9_back_35 ?_
        obtain ⟨y6, hq7, hf⟩ := bi_out hf
        refine cw_vi (As := []) (rest := []) ⟨hx, hb, hml, hown, hts⟩ xP_S hK hX0 hS hP (c_X3_notUnder hj l N f4 t y6 hq7) (cwV 0 hts gX9_back_X3_notUnder rfl rfl rfl (by decide +kernel) ⟨Nat.le_trans (Nat.le_of_ble_eq_true rfl) hR.1, Nat.le_trans (Nat.le_of_ble_eq_true rfl) hR.2⟩) (va_recv hK hP (ci := 3) (q0 := 23) rfl rfl) rfl hl.1 rfl (Nat.le_of_ble_eq_true rfl) ⟨Nat.zero_le _, Nat.zero_le _⟩ dX9_back_38 (fun H locs hP hS => ?_)
        obtain ⟨rfl, rfl⟩ := Prod.mk.inj (Option.some.inj hf)
        exact kr H locs ls 41 dX9_back_41 hP hS
      · have hf := itF hf c30
        by_cases cc30 : x1 = 1
        · have hf := itT hf cc30
          refine va_aldq hx hb hK hP 27 3 rfl rfl (by rw [cc30]; unfold vp_in; decide) dX9_back_30 ?_
          rw [cc30]
          show W p l e R s m args below meth c H locs 0 0 Q (F0 m 31 ls [.ref (ad 32), .ref (ad 23)])
          obtain ⟨f8, hq9, hf⟩ := bi_out hf
          refine cw_vv (As := [.ref (ad 32)]) (rest := []) ⟨hx, hb, hml, hown, hts⟩ xP_S hK hX0 hS hP (c_X3_becomes_23_32 hj l f t f8 hq9) (cwV 1 hts gX9_back_X3_becomes rfl rfl rfl (by decide +kernel) ⟨Nat.le_trans (Nat.le_of_ble_eq_true rfl) hR.1, Nat.le_trans (Nat.le_of_ble_eq_true rfl) hR.2⟩) (va_recv hK hP (ci := 3) (q0 := 23) rfl rfl) rfl hl.1 rfl (Nat.le_of_ble_eq_true rfl) ⟨Nat.zero_le _, Nat.zero_le _⟩ dX9_back_31 (fun H locs hP hS => ?_)
          refine lv_aload_n hx hb dX9_back_34 rfl (lv_at hl 0 rfl) ?_
          refine va_get (D := D) (ci := 9) (v := .ref (ad 23)) (C := RX9) (T := TX9) (N := 11) hx hb hts hiX9 hown hK hP 0 rfl rfl 3 (by decide) lk35 (fun _ h9 => h9) rfl dX9_back_35 ?_
          obtain ⟨y10, hq11, hf⟩ := bi_out hf
          refine cw_vi (As := []) (rest := []) ⟨hx, hb, hml, hown, hts⟩ xP_S hK hX0 hS hP (c_X3_notUnder hj l N f8 t y10 hq11) (cwV 0 hts gX9_back_X3_notUnder rfl rfl rfl (by decide +kernel) ⟨Nat.le_trans (Nat.le_of_ble_eq_true rfl) hR.1, Nat.le_trans (Nat.le_of_ble_eq_true rfl) hR.2⟩) (va_recv hK hP (ci := 3) (q0 := 23) rfl rfl) rfl hl.1 rfl (Nat.le_of_ble_eq_true rfl) ⟨Nat.zero_le _, Nat.zero_le _⟩ dX9_back_38 (fun H locs hP hS => ?_)
          obtain ⟨rfl, rfl⟩ := Prod.mk.inj (Option.some.inj hf)
          exact kr H locs ls 41 dX9_back_41 hP hS
        · exact no_none (itF hf cc30)
    · have hf := itT hf c15
      refine lv_bipush (v := (-2)) hx hb dX9_back_18 (by decide) ?_
      obtain ⟨rfl, rfl⟩ := Prod.mk.inj (Option.some.inj hf)
      exact kr H locs ls 20 dX9_back_20 hP hS
  · have hf := itT hf c4
    refine lv_iconst (v := (-1)) hx hb dX9_back_7 (by decide) ?_
    obtain ⟨rfl, rfl⟩ := Prod.mk.inj (Option.some.inj hf)
    exact kr H locs ls 8 dX9_back_8 hP hS
set_option maxHeartbeats 4000000 in
set_option maxRecDepth 100000 in
theorem c_X9_back (hj : jP ad) (l : Launch) (N : Nat) (x1 : Int32) (f : mM) (t : Int64) (r : Int32) (fR : mM) (hf : q_X9_back N x1 f = some (r, fR)) : Met l yX9_back wsX9_back ({ frames := 2, cells := 0, slots := 0, locals := 70 }) (va_Pc ([.ref (ad 0), .int x1]) (pre D cy (wP ad cy) (xP ad sk sv) f t)) (va_Qi (fun (r2 : Int32) (u : mM × Int64) => r2 = r ∧ u = (fR, t)) (atW D (wP ad cy)) (aP ad)) 0 0 (aP ad) := by
  refine Met.ofW (cc := cX9_back) (maxL := 2) (ret := (some .int)) (by decide) rfl ?_
  intro p e s m args below meth c s₁ B hml hv
  obtain ⟨rfl, hP, hK, hX0⟩ := hv
  have hl := lv_entry ([.ref (ad 0), .int x1]) (n := 2) (Nat.le_of_ble_eq_true rfl)
  rw [lg_entry_eq]
  generalize (lg_sl ([.ref (ad 0), .int x1]) ++ List.replicate (2 - (lg_sl ([.ref (ad 0), .int x1])).length) Slot.unset).toArray = ls at hl ⊢
  have hlocks := B.notSynchronized
  exact b_X9_back ⟨B.exec, B.bytes, B.returns, hml, findClass_of_methodNamed B.named, atoms_spec (ws := wsX9_back) B.pre, hlocks, hK, hX0⟩ hj ⟨Nat.le_refl _, Nat.le_refl _⟩ N x1 f t r fR hf (fun H locs ls pc hd hP hS => W.iret B.exec B.bytes B.returns (fun t2 ht hW => ⟨⟨r, (fR, t), rfl, ⟨rfl, rfl⟩, by show va_P D vwCl _ t2.heap; rw [ht]; exact hP⟩, hS.F ht⟩) hS.2.2 hd) s.heap [] ls hP va_S.rf hl
