variable {p : Program} {l : Launch} {e : Env} {R : Room} {s : State} {m : MethodId} {args : Array Value} {below : List Frame} {meth : Method} {c : Code} {Q : State → Prop} {D : va_G} {cy : Nat → ClassId} {ad sk sv : Nat → Nat}
def q_X9_marsh (N : Nat) (f : mM) : Option (Int32 × mM) := bi2 (q_X4_read N f) (fun y1 f2 => if 0 ≤ y1 then sq (st2 f2 1 1 0) (fun f4 => bi (q_X2_becomes f4) (fun f5 => bi (q_X3_beginsAsTold N f5) (fun f7 => bi (q_X9_forgetImages N f7) (fun f9 => some (y1, f9))))) else some (y1, f2))
set_option maxHeartbeats 4000000 in
set_option maxRecDepth 100000 in
theorem b_X9_marsh (C0 : cX p s m args meth c cX9_marsh 2 (some .int) RX9 wsX9_marsh D cy (xP ad sk sv)) (hj : jP ad) (hR : 10 ≤ R.frames ∧ 215 ≤ R.locals) (N : Nat)  (f : mM) (t : Int64) (r : Int32) (fR : mM) (hf : q_X9_marsh N f = some (r, fR)) (kr : ∀ (H : Heap) (locs : List Loc) (ls : Array Slot) (pc : Nat), decode cX9_marsh pc = .ok (.ireturn, 1) → va_P D vwCl (wP ad cy fR t) H → va_S (aP ad) s.heap H locs → W p l e R s m args below meth c H locs 0 0 Q (F0 m pc ls [.int r])) (H : Heap) (locs : List Loc) (ls : Array Slot) (hP : va_P D vwCl (wP ad cy f t) H) (hS : va_S (aP ad) s.heap H locs) (hl : lv_has ls 2 [(0, .ref (ad 0))]) : W p l e R s m args below meth c H locs 0 0 Q (F0 m 0 ls []) := by
  obtain ⟨hx, hb, hr, hml, hown, hts, hlocks, hK, hX0⟩ := id C0
  have lk28 := hts (.fieldLink RX9 28 "PlankNine" "reader" "LPlankNine$Reader;") (List.mem_of_getElem? (i := 1) rfl)
  have hiX9 : ∀ w ∈ u_ws RX9 TX9 11, w ∈ wsX9_marsh := fun w h => List.mem_cons_of_mem _ (List.mem_append_left _ (List.mem_append_left _ (List.mem_append_left _ (List.mem_append_left _ (List.mem_append_right _ h)))))
  have lk12 := hts (.fieldLink RX9 12 "PlankNine" "text" "LPlankNine$Text;") (List.mem_of_getElem? (i := 2) rfl)
  have ln96 := nlF_0 (args := args) hX0
  have hiX7 : ∀ w ∈ u_ws RX7 TX7 2, w ∈ wsX9_marsh := fun w h => List.mem_cons_of_mem _ (List.mem_append_left _ (List.mem_append_left _ (List.mem_append_left _ (List.mem_append_right _ h))))
  have lk19 := hts (.fieldLink RX9 19 "PlankNine" "told" "LPlankNine$Marsh;") (List.mem_of_getElem? (i := 3) rfl)
  have ln104 := nlF_39 (args := args) hX0
  have hiX4 : ∀ w ∈ u_ws RX4 TX4 7, w ∈ wsX9_marsh := fun w h => List.mem_cons_of_mem _ (List.mem_append_left _ (List.mem_append_left _ (List.mem_append_right _ h)))
  have lk35 := hts (.fieldLink RX9 35 "PlankNine" "now" "LPlankNine$Now;") (List.mem_of_getElem? (i := 4) rfl)
  unfold q_X9_marsh at hf
  refine lv_aload_n hx hb dX9_marsh_0 rfl (lv_at hl 0 rfl) ?_
  refine va_get (D := D) (ci := 9) (v := .ref (ad 12)) (C := RX9) (T := TX9) (N := 11) hx hb hts hiX9 hown hK hP 0 rfl rfl 2 (by decide) lk28 (fun _ h9 => h9) rfl dX9_marsh_1 ?_
  obtain ⟨y1, f2, hq3, hf⟩ := bi2_out hf
  refine cw_vi (As := []) (rest := []) ⟨hx, hb, hml, hown, hts⟩ xP_S hK hX0 hS hP (c_X4_read hj l N f t y1 f2 hq3) (cwV 0 hts gX9_marsh_X4_read rfl rfl rfl (by decide +kernel) ⟨Nat.le_trans (Nat.le_of_ble_eq_true rfl) hR.1, Nat.le_trans (Nat.le_of_ble_eq_true rfl) hR.2⟩) (va_recv hK hP (ci := 4) (q0 := 12) rfl rfl) rfl hl.1 rfl (Nat.le_of_ble_eq_true rfl) ⟨Nat.zero_le _, Nat.zero_le _⟩ dX9_marsh_4 (fun H locs hP hS => ?_)
  refine lv_istore_n (lv' := [(1, .int y1), (0, .ref (ad 0))]) hx hb dX9_marsh_7 rfl hl (by decide) rfl (fun ls hl => ?_)
  refine lv_iload_n hx hb dX9_marsh_8 rfl (lv_at hl 0 rfl) ?_
  refine lv_if_ge (tgt := 14) hx hb dX9_marsh_9 (by decide) (fun c9 => ?_) (fun c9 => ?_)
  · have hf := itT hf c9
    refine lv_aload_n hx hb dX9_marsh_14 rfl (lv_at hl 1 rfl) ?_
    refine va_get (D := D) (ci := 9) (v := .ref (ad 1)) (C := RX9) (T := TX9) (N := 11) hx hb hts hiX9 hown hK hP 0 rfl rfl 0 (by decide) lk12 (fun _ h9 => h9) rfl dX9_marsh_15 ?_
    refine lv_iconst (v := 0) hx hb dX9_marsh_18 (by decide) ?_
    obtain ⟨f4, ef4, hf⟩ := sq_out hf
    refine va_putN (D := D) (ci := 7) (v := .int 0) (ty := .int) (C := RX7) (T := TX7) (N := 2) hx hb hts hiX7 tyX7 tyX7_ok nmX7 hown hK hP (dP hj f2 t) hS 1 rfl rfl 1 (by decide) ln96 (fun _ h9 => h9) rfl (by decide +kernel) rfl rfl (Nat.le_of_ble_eq_true rfl) dX9_marsh_19 (fun H locs hP _ hS => ?_)
    have hP := sP_1_1 ef4 hP
    refine lv_aload_n hx hb dX9_marsh_22 rfl (lv_at hl 1 rfl) ?_
    refine va_get (D := D) (ci := 9) (v := .ref (ad 3)) (C := RX9) (T := TX9) (N := 11) hx hb hts hiX9 hown hK hP 0 rfl rfl 1 (by decide) lk19 (fun _ h9 => h9) rfl dX9_marsh_23 ?_
    refine lv_aload_n hx hb dX9_marsh_26 rfl (lv_at hl 1 rfl) ?_
    refine va_get (D := D) (ci := 9) (v := .ref (ad 12)) (C := RX9) (T := TX9) (N := 11) hx hb hts hiX9 hown hK hP 0 rfl rfl 2 (by decide) lk28 (fun _ h9 => h9) rfl dX9_marsh_27 ?_
    refine va_getN (D := D) (ci := 4) (v := .ref (ad 13)) (C := RX4) (T := TX4) (N := 7) hx hb hts hiX4 hown hK hP 12 rfl rfl 1 (by decide) ln104 (fun _ h9 => h9) rfl dX9_marsh_30 ?_
    obtain ⟨f5, hq6, hf⟩ := bi_out hf
    refine cw_vv (As := [.ref (ad 13)]) (rest := []) ⟨hx, hb, hml, hown, hts⟩ xP_S hK hX0 hS hP (c_X2_becomes hj l f4 t f5 hq6) (cwV 1 hts gX9_marsh_X2_becomes rfl rfl rfl (by decide +kernel) ⟨Nat.le_trans (Nat.le_of_ble_eq_true rfl) hR.1, Nat.le_trans (Nat.le_of_ble_eq_true rfl) hR.2⟩) (va_recv hK hP (ci := 2) (q0 := 3) rfl rfl) rfl hl.1 rfl (Nat.le_of_ble_eq_true rfl) ⟨Nat.zero_le _, Nat.zero_le _⟩ dX9_marsh_33 (fun H locs hP hS => ?_)
    refine lv_aload_n hx hb dX9_marsh_36 rfl (lv_at hl 1 rfl) ?_
    refine va_get (D := D) (ci := 9) (v := .ref (ad 23)) (C := RX9) (T := TX9) (N := 11) hx hb hts hiX9 hown hK hP 0 rfl rfl 3 (by decide) lk35 (fun _ h9 => h9) rfl dX9_marsh_37 ?_
    refine lv_aload_n hx hb dX9_marsh_40 rfl (lv_at hl 1 rfl) ?_
    refine va_get (D := D) (ci := 9) (v := .ref (ad 3)) (C := RX9) (T := TX9) (N := 11) hx hb hts hiX9 hown hK hP 0 rfl rfl 1 (by decide) lk19 (fun _ h9 => h9) rfl dX9_marsh_41 ?_
    obtain ⟨f7, hq8, hf⟩ := bi_out hf
    refine cw_vv (As := [.ref (ad 3)]) (rest := []) ⟨hx, hb, hml, hown, hts⟩ xP_S hK hX0 hS hP (c_X3_beginsAsTold hj l N f5 t f7 hq8) (cwV 1 hts gX9_marsh_X3_beginsAsTold rfl rfl rfl (by decide +kernel) ⟨Nat.le_trans (Nat.le_of_ble_eq_true rfl) hR.1, Nat.le_trans (Nat.le_of_ble_eq_true rfl) hR.2⟩) (va_recv hK hP (ci := 3) (q0 := 23) rfl rfl) rfl hl.1 rfl (Nat.le_of_ble_eq_true rfl) ⟨Nat.zero_le _, Nat.zero_le _⟩ dX9_marsh_44 (fun H locs hP hS => ?_)
    refine lv_aload_n hx hb dX9_marsh_47 rfl (lv_at hl 1 rfl) ?_
    obtain ⟨f9, hq10, hf⟩ := bi_out hf
    refine cw_vv (As := []) (rest := []) ⟨hx, hb, hml, hown, hts⟩ xP_S hK hX0 hS hP (c_X9_forgetImages hj l N f7 t f9 hq10) (cwV 0 hts gX9_marsh_X9_forgetImages rfl rfl rfl (by decide +kernel) ⟨Nat.le_trans (Nat.le_of_ble_eq_true rfl) hR.1, Nat.le_trans (Nat.le_of_ble_eq_true rfl) hR.2⟩) (va_recv hK hP (ci := 9) (q0 := 0) rfl rfl) rfl hl.1 rfl (Nat.le_of_ble_eq_true rfl) ⟨Nat.zero_le _, Nat.zero_le _⟩ dX9_marsh_48 (fun H locs hP hS => ?_)
    refine lv_iload_n hx hb dX9_marsh_51 rfl (lv_at hl 0 rfl) ?_
    obtain ⟨rfl, rfl⟩ := Prod.mk.inj (Option.some.inj hf)
    exact kr H locs ls 52 dX9_marsh_52 hP hS
  · have hf := itF hf c9
    refine lv_iload_n hx hb dX9_marsh_12 rfl (lv_at hl 0 rfl) ?_
    obtain ⟨rfl, rfl⟩ := Prod.mk.inj (Option.some.inj hf)
    exact kr H locs ls 13 dX9_marsh_13 hP hS
set_option maxHeartbeats 4000000 in
set_option maxRecDepth 100000 in
theorem c_X9_marsh (hj : jP ad) (l : Launch) (N : Nat)  (f : mM) (t : Int64) (r : Int32) (fR : mM) (hf : q_X9_marsh N f = some (r, fR)) : Met l yX9_marsh wsX9_marsh ({ frames := 10, cells := 0, slots := 0, locals := 215 }) (va_Pc ([.ref (ad 0)]) (pre D cy (wP ad cy) (xP ad sk sv) f t)) (va_Qi (fun (r2 : Int32) (u : mM × Int64) => r2 = r ∧ u = (fR, t)) (atW D (wP ad cy)) (aP ad)) 0 0 (aP ad) := by
  refine Met.ofW (cc := cX9_marsh) (maxL := 2) (ret := (some .int)) (by decide) rfl ?_
  intro p e s m args below meth c s₁ B hml hv
  obtain ⟨rfl, hP, hK, hX0⟩ := hv
  have hl := lv_entry ([.ref (ad 0)]) (n := 2) (Nat.le_of_ble_eq_true rfl)
  rw [lg_entry_eq]
  generalize (lg_sl ([.ref (ad 0)]) ++ List.replicate (2 - (lg_sl ([.ref (ad 0)])).length) Slot.unset).toArray = ls at hl ⊢
  have hlocks := B.notSynchronized
  exact b_X9_marsh ⟨B.exec, B.bytes, B.returns, hml, findClass_of_methodNamed B.named, atoms_spec (ws := wsX9_marsh) B.pre, hlocks, hK, hX0⟩ hj ⟨Nat.le_refl _, Nat.le_refl _⟩ N  f t r fR hf (fun H locs ls pc hd hP hS => W.iret B.exec B.bytes B.returns (fun t2 ht hW => ⟨⟨r, (fR, t), rfl, ⟨rfl, rfl⟩, by show va_P D vwCl _ t2.heap; rw [ht]; exact hP⟩, hS.F ht⟩) hS.2.2 hd) s.heap [] ls hP va_S.rf hl
def q_X9_way (N : Nat) (x1 : Int32) (x2 : Int32) (x3 : Int32) (x4 : Int32) (f : mM) : Option (Int32 × mM) := bi (q_X2_isPerson x1 f) (fun y1 => if y1 = 0 then some ((-1), f) else bi (q_X2_areTwoPlaces x2 x3 f) (fun y3 => if y3 = 0 then some ((-1), f) else if (-1) ≤ x4 then bi2 (q_X8_findFirst N x1 x2 x3 f) (fun y5 f6 => if y5 = 0 then some ((-9), f6) else if x4 = (-1) then some (y5, f6) else if y5 ≤ x4 then some ((-5), f6) else bi (q_X8_plankOnWay x4 f6) (fun y8 => some (y8, f6))) else some ((-1), f)))
set_option maxHeartbeats 4000000 in
set_option maxRecDepth 100000 in
theorem b_X9_way (C0 : cX p s m args meth c cX9_way 6 (some .int) RX9 wsX9_way D cy (xP ad sk sv)) (hj : jP ad) (hR : 18 ≤ R.frames ∧ 421 ≤ R.locals) (N : Nat) (x1 : Int32) (x2 : Int32) (x3 : Int32) (x4 : Int32) (f : mM) (t : Int64) (r : Int32) (fR : mM) (hf : q_X9_way N x1 x2 x3 x4 f = some (r, fR)) (kr : ∀ (H : Heap) (locs : List Loc) (ls : Array Slot) (pc : Nat), decode cX9_way pc = .ok (.ireturn, 1) → va_P D vwCl (wP ad cy fR t) H → va_S (aP ad) s.heap H locs → W p l e R s m args below meth c H locs 0 0 Q (F0 m pc ls [.int r])) (H : Heap) (locs : List Loc) (ls : Array Slot) (hP : va_P D vwCl (wP ad cy f t) H) (hS : va_S (aP ad) s.heap H locs) (hl : lv_has ls 6 [(0, .ref (ad 0)), (1, .int x1), (2, .int x2), (3, .int x3), (4, .int x4)]) : W p l e R s m args below meth c H locs 0 0 Q (F0 m 0 ls []) := by
  obtain ⟨hx, hb, hr, hml, hown, hts, hlocks, hK, hX0⟩ := id C0
  have lk19 := hts (.fieldLink RX9 19 "PlankNine" "told" "LPlankNine$Marsh;") (List.mem_of_getElem? (i := 1) rfl)
  have hiX9 : ∀ w ∈ u_ws RX9 TX9 11, w ∈ wsX9_way := fun w h => List.mem_cons_of_mem _ (List.mem_append_left _ (List.mem_append_left _ (List.mem_append_left _ (List.mem_append_right _ h))))
  have lk52 := hts (.fieldLink RX9 52 "PlankNine" "ways" "LPlankNine$Ways;") (List.mem_of_getElem? (i := 2) rfl)
  unfold q_X9_way at hf
  refine lv_aload_n hx hb dX9_way_0 rfl (lv_at hl 0 rfl) ?_
  refine va_get (D := D) (ci := 9) (v := .ref (ad 3)) (C := RX9) (T := TX9) (N := 11) hx hb hts hiX9 hown hK hP 0 rfl rfl 1 (by decide) lk19 (fun _ h9 => h9) rfl dX9_way_1 ?_
  refine lv_iload_n hx hb dX9_way_4 rfl (lv_at hl 1 rfl) ?_
  obtain ⟨y1, hq2, hf⟩ := bi_out hf
  refine cw_vi (As := [.int x1]) (rest := []) ⟨hx, hb, hml, hown, hts⟩ xP_S hK hX0 hS hP (c_X2_isPerson hj l x1 f t y1 hq2) (cwV 1 hts gX9_way_X2_isPerson rfl rfl rfl (by decide +kernel) ⟨Nat.le_trans (Nat.le_of_ble_eq_true rfl) hR.1, Nat.le_trans (Nat.le_of_ble_eq_true rfl) hR.2⟩) (va_recv hK hP (ci := 2) (q0 := 3) rfl rfl) rfl hl.1 rfl (Nat.le_of_ble_eq_true rfl) ⟨Nat.zero_le _, Nat.zero_le _⟩ dX9_way_5 (fun H locs hP hS => ?_)
  refine lv_if_eq (tgt := 29) hx hb dX9_way_8 (by decide) (fun c8 => ?_) (fun c8 => ?_)
  · have hf := itT hf c8
    refine lv_iconst (v := (-1)) hx hb dX9_way_29 (by decide) ?_
    obtain ⟨rfl, rfl⟩ := Prod.mk.inj (Option.some.inj hf)
    exact kr H locs ls 30 dX9_way_30 hP hS
  · have hf := itF hf c8
    refine lv_aload_n hx hb dX9_way_11 rfl (lv_at hl 0 rfl) ?_
    refine va_get (D := D) (ci := 9) (v := .ref (ad 3)) (C := RX9) (T := TX9) (N := 11) hx hb hts hiX9 hown hK hP 0 rfl rfl 1 (by decide) lk19 (fun _ h9 => h9) rfl dX9_way_12 ?_
    refine lv_iload_n hx hb dX9_way_15 rfl (lv_at hl 2 rfl) ?_
    refine lv_iload_n hx hb dX9_way_16 rfl (lv_at hl 3 rfl) ?_
    obtain ⟨y3, hq4, hf⟩ := bi_out hf
    refine cw_vi (As := [.int x2, .int x3]) (rest := []) ⟨hx, hb, hml, hown, hts⟩ xP_S hK hX0 hS hP (c_X2_areTwoPlaces hj l x2 x3 f t y3 hq4) (cwV 2 hts gX9_way_X2_areTwoPlaces rfl rfl rfl (by decide +kernel) ⟨Nat.le_trans (Nat.le_of_ble_eq_true rfl) hR.1, Nat.le_trans (Nat.le_of_ble_eq_true rfl) hR.2⟩) (va_recv hK hP (ci := 2) (q0 := 3) rfl rfl) rfl hl.1 rfl (Nat.le_of_ble_eq_true rfl) ⟨Nat.zero_le _, Nat.zero_le _⟩ dX9_way_17 (fun H locs hP hS => ?_)
    refine lv_if_eq (tgt := 29) hx hb dX9_way_20 (by decide) (fun c20 => ?_) (fun c20 => ?_)
    · have hf := itT hf c20
      refine lv_iconst (v := (-1)) hx hb dX9_way_29 (by decide) ?_
      obtain ⟨rfl, rfl⟩ := Prod.mk.inj (Option.some.inj hf)
      exact kr H locs ls 30 dX9_way_30 hP hS
    · have hf := itF hf c20
      refine lv_iload hx hb dX9_way_23 (lv_at hl 4 rfl) ?_
      refine lv_iconst (v := (-1)) hx hb dX9_way_25 (by decide) ?_
      refine lv_icmp_ge (tgt := 31) hx hb dX9_way_26 (by decide) (fun c26 => ?_) (fun c26 => ?_)
      · have hf := itT hf c26
        refine lv_aload_n hx hb dX9_way_31 rfl (lv_at hl 0 rfl) ?_
        refine va_get (D := D) (ci := 9) (v := .ref (ad 37)) (C := RX9) (T := TX9) (N := 11) hx hb hts hiX9 hown hK hP 0 rfl rfl 6 (by decide) lk52 (fun _ h9 => h9) rfl dX9_way_32 ?_
        refine lv_iload_n hx hb dX9_way_35 rfl (lv_at hl 1 rfl) ?_
        refine lv_iload_n hx hb dX9_way_36 rfl (lv_at hl 2 rfl) ?_
        refine lv_iload_n hx hb dX9_way_37 rfl (lv_at hl 3 rfl) ?_
        obtain ⟨y5, f6, hq7, hf⟩ := bi2_out hf
        refine cw_vi (As := [.int x1, .int x2, .int x3]) (rest := []) ⟨hx, hb, hml, hown, hts⟩ xP_S hK hX0 hS hP (c_X8_findFirst hj l N x1 x2 x3 f t y5 f6 hq7) (cwV 3 hts gX9_way_X8_findFirst rfl rfl rfl (by decide +kernel) ⟨Nat.le_trans (Nat.le_of_ble_eq_true rfl) hR.1, Nat.le_trans (Nat.le_of_ble_eq_true rfl) hR.2⟩) (va_recv hK hP (ci := 8) (q0 := 37) rfl rfl) rfl hl.1 rfl (Nat.le_of_ble_eq_true rfl) ⟨Nat.zero_le _, Nat.zero_le _⟩ dX9_way_38 (fun H locs hP hS => ?_)
        refine lv_istore (lv' := [(5, .int y5), (0, .ref (ad 0)), (1, .int x1), (2, .int x2), (3, .int x3), (4, .int x4)]) hx hb dX9_way_41 hl (by decide) rfl (fun ls hl => ?_)
        refine lv_iload hx hb dX9_way_43 (lv_at hl 0 rfl) ?_
        refine lv_if_ne (tgt := 51) hx hb dX9_way_45 (by decide) (fun c45 => ?_) (fun c45 => ?_)
        · have hf := itF hf c45
          refine lv_iload hx hb dX9_way_51 (lv_at hl 5 rfl) ?_
          refine lv_iconst (v := (-1)) hx hb dX9_way_53 (by decide) ?_
          refine lv_icmp_ne (tgt := 60) hx hb dX9_way_54 (by decide) (fun c54 => ?_) (fun c54 => ?_)
          · have hf := itF hf c54
            refine lv_iload hx hb dX9_way_60 (lv_at hl 5 rfl) ?_
            refine lv_iload hx hb dX9_way_62 (lv_at hl 0 rfl) ?_
            refine lv_icmp_ge (tgt := 79) hx hb dX9_way_64 (by decide) (fun c64 => ?_) (fun c64 => ?_)
            · have hf := itT hf c64
              refine lv_bipush (v := (-5)) hx hb dX9_way_79 (by decide) ?_
              obtain ⟨rfl, rfl⟩ := Prod.mk.inj (Option.some.inj hf)
              exact kr H locs ls 81 dX9_way_81 hP hS
            · have hf := itF hf c64
              refine lv_aload_n hx hb dX9_way_67 rfl (lv_at hl 1 rfl) ?_
              refine va_get (D := D) (ci := 9) (v := .ref (ad 37)) (C := RX9) (T := TX9) (N := 11) hx hb hts hiX9 hown hK hP 0 rfl rfl 6 (by decide) lk52 (fun _ h9 => h9) rfl dX9_way_68 ?_
              refine lv_iload hx hb dX9_way_71 (lv_at hl 5 rfl) ?_
              obtain ⟨y8, hq9, hf⟩ := bi_out hf
              refine cw_vi (As := [.int x4]) (rest := []) ⟨hx, hb, hml, hown, hts⟩ xP_S hK hX0 hS hP (c_X8_plankOnWay hj l x4 f6 t y8 hq9) (cwV 1 hts gX9_way_X8_plankOnWay rfl rfl rfl (by decide +kernel) ⟨Nat.le_trans (Nat.le_of_ble_eq_true rfl) hR.1, Nat.le_trans (Nat.le_of_ble_eq_true rfl) hR.2⟩) (va_recv hK hP (ci := 8) (q0 := 37) rfl rfl) rfl hl.1 rfl (Nat.le_of_ble_eq_true rfl) ⟨Nat.zero_le _, Nat.zero_le _⟩ dX9_way_73 (fun H locs hP hS => ?_)
              refine lv_goto (tgt := 81) hx hb dX9_way_76 (by decide) ?_
              obtain ⟨rfl, rfl⟩ := Prod.mk.inj (Option.some.inj hf)
              exact kr H locs ls 81 dX9_way_81 hP hS
          · have hf := itT hf c54
            refine lv_iload hx hb dX9_way_57 (lv_at hl 0 rfl) ?_
            obtain ⟨rfl, rfl⟩ := Prod.mk.inj (Option.some.inj hf)
            exact kr H locs ls 59 dX9_way_59 hP hS
        · have hf := itT hf c45
          refine lv_bipush (v := (-9)) hx hb dX9_way_48 (by decide) ?_
          obtain ⟨rfl, rfl⟩ := Prod.mk.inj (Option.some.inj hf)
          exact kr H locs ls 50 dX9_way_50 hP hS
      · have hf := itF hf c26
        refine lv_iconst (v := (-1)) hx hb dX9_way_29 (by decide) ?_
        obtain ⟨rfl, rfl⟩ := Prod.mk.inj (Option.some.inj hf)
        exact kr H locs ls 30 dX9_way_30 hP hS
set_option maxHeartbeats 4000000 in
set_option maxRecDepth 100000 in
theorem c_X9_way (hj : jP ad) (l : Launch) (N : Nat) (x1 : Int32) (x2 : Int32) (x3 : Int32) (x4 : Int32) (f : mM) (t : Int64) (r : Int32) (fR : mM) (hf : q_X9_way N x1 x2 x3 x4 f = some (r, fR)) : Met l yX9_way wsX9_way ({ frames := 18, cells := 0, slots := 0, locals := 421 }) (va_Pc ([.ref (ad 0), .int x1, .int x2, .int x3, .int x4]) (pre D cy (wP ad cy) (xP ad sk sv) f t)) (va_Qi (fun (r2 : Int32) (u : mM × Int64) => r2 = r ∧ u = (fR, t)) (atW D (wP ad cy)) (aP ad)) 0 0 (aP ad) := by
  refine Met.ofW (cc := cX9_way) (maxL := 6) (ret := (some .int)) (by decide) rfl ?_
  intro p e s m args below meth c s₁ B hml hv
  obtain ⟨rfl, hP, hK, hX0⟩ := hv
  have hl := lv_entry ([.ref (ad 0), .int x1, .int x2, .int x3, .int x4]) (n := 6) (Nat.le_of_ble_eq_true rfl)
  rw [lg_entry_eq]
  generalize (lg_sl ([.ref (ad 0), .int x1, .int x2, .int x3, .int x4]) ++ List.replicate (6 - (lg_sl ([.ref (ad 0), .int x1, .int x2, .int x3, .int x4])).length) Slot.unset).toArray = ls at hl ⊢
  have hlocks := B.notSynchronized
  exact b_X9_way ⟨B.exec, B.bytes, B.returns, hml, findClass_of_methodNamed B.named, atoms_spec (ws := wsX9_way) B.pre, hlocks, hK, hX0⟩ hj ⟨Nat.le_refl _, Nat.le_refl _⟩ N x1 x2 x3 x4 f t r fR hf (fun H locs ls pc hd hP hS => W.iret B.exec B.bytes B.returns (fun t2 ht hW => ⟨⟨r, (fR, t), rfl, ⟨rfl, rfl⟩, by show va_P D vwCl _ t2.heap; rw [ht]; exact hP⟩, hS.F ht⟩) hS.2.2 hd) s.heap [] ls hP va_S.rf hl
def q_X9_go (N : Nat) (x1 : Int32) (x2 : Int32) (x3 : Int32) (f : mM) : Option (Int32 × mM) := bi (q_X2_isPerson x1 f) (fun y1 => if y1 = 0 then some ((-1), f) else bi (q_X2_areTwoPlaces x2 x3 f) (fun y3 => if y3 = 0 then some ((-1), f) else bi2 (q_X8_findFirst N x1 x2 x3 f) (fun y5 f6 => if y5 = 0 then some ((-2), f6) else bi2 (q_X8_walkFound N x1 y5 f6) (fun y8 f9 => some (y8, f9)))))
set_option maxHeartbeats 4000000 in
set_option maxRecDepth 100000 in
theorem b_X9_go (C0 : cX p s m args meth c cX9_go 5 (some .int) RX9 wsX9_go D cy (xP ad sk sv)) (hj : jP ad) (hR : 18 ≤ R.frames ∧ 421 ≤ R.locals) (N : Nat) (x1 : Int32) (x2 : Int32) (x3 : Int32) (f : mM) (t : Int64) (r : Int32) (fR : mM) (hf : q_X9_go N x1 x2 x3 f = some (r, fR)) (kr : ∀ (H : Heap) (locs : List Loc) (ls : Array Slot) (pc : Nat), decode cX9_go pc = .ok (.ireturn, 1) → va_P D vwCl (wP ad cy fR t) H → va_S (aP ad) s.heap H locs → W p l e R s m args below meth c H locs 0 0 Q (F0 m pc ls [.int r])) (H : Heap) (locs : List Loc) (ls : Array Slot) (hP : va_P D vwCl (wP ad cy f t) H) (hS : va_S (aP ad) s.heap H locs) (hl : lv_has ls 5 [(0, .ref (ad 0)), (1, .int x1), (2, .int x2), (3, .int x3)]) : W p l e R s m args below meth c H locs 0 0 Q (F0 m 0 ls []) := by
  obtain ⟨hx, hb, hr, hml, hown, hts, hlocks, hK, hX0⟩ := id C0
  have lk19 := hts (.fieldLink RX9 19 "PlankNine" "told" "LPlankNine$Marsh;") (List.mem_of_getElem? (i := 1) rfl)
  have hiX9 : ∀ w ∈ u_ws RX9 TX9 11, w ∈ wsX9_go := fun w h => List.mem_cons_of_mem _ (List.mem_append_left _ (List.mem_append_left _ (List.mem_append_left _ (List.mem_append_right _ h))))
  have lk52 := hts (.fieldLink RX9 52 "PlankNine" "ways" "LPlankNine$Ways;") (List.mem_of_getElem? (i := 2) rfl)
  unfold q_X9_go at hf
  refine lv_aload_n hx hb dX9_go_0 rfl (lv_at hl 0 rfl) ?_
  refine va_get (D := D) (ci := 9) (v := .ref (ad 3)) (C := RX9) (T := TX9) (N := 11) hx hb hts hiX9 hown hK hP 0 rfl rfl 1 (by decide) lk19 (fun _ h9 => h9) rfl dX9_go_1 ?_
  refine lv_iload_n hx hb dX9_go_4 rfl (lv_at hl 1 rfl) ?_
  obtain ⟨y1, hq2, hf⟩ := bi_out hf
  refine cw_vi (As := [.int x1]) (rest := []) ⟨hx, hb, hml, hown, hts⟩ xP_S hK hX0 hS hP (c_X2_isPerson hj l x1 f t y1 hq2) (cwV 1 hts gX9_go_X2_isPerson rfl rfl rfl (by decide +kernel) ⟨Nat.le_trans (Nat.le_of_ble_eq_true rfl) hR.1, Nat.le_trans (Nat.le_of_ble_eq_true rfl) hR.2⟩) (va_recv hK hP (ci := 2) (q0 := 3) rfl rfl) rfl hl.1 rfl (Nat.le_of_ble_eq_true rfl) ⟨Nat.zero_le _, Nat.zero_le _⟩ dX9_go_5 (fun H locs hP hS => ?_)
  refine lv_if_eq (tgt := 23) hx hb dX9_go_8 (by decide) (fun c8 => ?_) (fun c8 => ?_)
  · have hf := itT hf c8
    refine lv_iconst (v := (-1)) hx hb dX9_go_23 (by decide) ?_
    obtain ⟨rfl, rfl⟩ := Prod.mk.inj (Option.some.inj hf)
    exact kr H locs ls 24 dX9_go_24 hP hS
  · have hf := itF hf c8
    refine lv_aload_n hx hb dX9_go_11 rfl (lv_at hl 0 rfl) ?_
    refine va_get (D := D) (ci := 9) (v := .ref (ad 3)) (C := RX9) (T := TX9) (N := 11) hx hb hts hiX9 hown hK hP 0 rfl rfl 1 (by decide) lk19 (fun _ h9 => h9) rfl dX9_go_12 ?_
    refine lv_iload_n hx hb dX9_go_15 rfl (lv_at hl 2 rfl) ?_
    refine lv_iload_n hx hb dX9_go_16 rfl (lv_at hl 3 rfl) ?_
    obtain ⟨y3, hq4, hf⟩ := bi_out hf
    refine cw_vi (As := [.int x2, .int x3]) (rest := []) ⟨hx, hb, hml, hown, hts⟩ xP_S hK hX0 hS hP (c_X2_areTwoPlaces hj l x2 x3 f t y3 hq4) (cwV 2 hts gX9_go_X2_areTwoPlaces rfl rfl rfl (by decide +kernel) ⟨Nat.le_trans (Nat.le_of_ble_eq_true rfl) hR.1, Nat.le_trans (Nat.le_of_ble_eq_true rfl) hR.2⟩) (va_recv hK hP (ci := 2) (q0 := 3) rfl rfl) rfl hl.1 rfl (Nat.le_of_ble_eq_true rfl) ⟨Nat.zero_le _, Nat.zero_le _⟩ dX9_go_17 (fun H locs hP hS => ?_)
    refine lv_if_ne (tgt := 25) hx hb dX9_go_20 (by decide) (fun c20 => ?_) (fun c20 => ?_)
    · have hf := itF hf c20
      refine lv_aload_n hx hb dX9_go_25 rfl (lv_at hl 0 rfl) ?_
      refine va_get (D := D) (ci := 9) (v := .ref (ad 37)) (C := RX9) (T := TX9) (N := 11) hx hb hts hiX9 hown hK hP 0 rfl rfl 6 (by decide) lk52 (fun _ h9 => h9) rfl dX9_go_26 ?_
      refine lv_iload_n hx hb dX9_go_29 rfl (lv_at hl 1 rfl) ?_
      refine lv_iload_n hx hb dX9_go_30 rfl (lv_at hl 2 rfl) ?_
      refine lv_iload_n hx hb dX9_go_31 rfl (lv_at hl 3 rfl) ?_
      obtain ⟨y5, f6, hq7, hf⟩ := bi2_out hf
      refine cw_vi (As := [.int x1, .int x2, .int x3]) (rest := []) ⟨hx, hb, hml, hown, hts⟩ xP_S hK hX0 hS hP (c_X8_findFirst hj l N x1 x2 x3 f t y5 f6 hq7) (cwV 3 hts gX9_go_X8_findFirst rfl rfl rfl (by decide +kernel) ⟨Nat.le_trans (Nat.le_of_ble_eq_true rfl) hR.1, Nat.le_trans (Nat.le_of_ble_eq_true rfl) hR.2⟩) (va_recv hK hP (ci := 8) (q0 := 37) rfl rfl) rfl hl.1 rfl (Nat.le_of_ble_eq_true rfl) ⟨Nat.zero_le _, Nat.zero_le _⟩ dX9_go_32 (fun H locs hP hS => ?_)
      refine lv_istore (lv' := [(4, .int y5), (0, .ref (ad 0)), (1, .int x1), (2, .int x2), (3, .int x3)]) hx hb dX9_go_35 hl (by decide) rfl (fun ls hl => ?_)
      refine lv_iload hx hb dX9_go_37 (lv_at hl 0 rfl) ?_
      refine lv_if_ne (tgt := 47) hx hb dX9_go_39 (by decide) (fun c39 => ?_) (fun c39 => ?_)
      · have hf := itF hf c39
        refine lv_aload_n hx hb dX9_go_47 rfl (lv_at hl 1 rfl) ?_
        refine va_get (D := D) (ci := 9) (v := .ref (ad 37)) (C := RX9) (T := TX9) (N := 11) hx hb hts hiX9 hown hK hP 0 rfl rfl 6 (by decide) lk52 (fun _ h9 => h9) rfl dX9_go_48 ?_
        refine lv_iload_n hx hb dX9_go_51 rfl (lv_at hl 2 rfl) ?_
        refine lv_iload hx hb dX9_go_52 (lv_at hl 0 rfl) ?_
        obtain ⟨y8, f9, hq10, hf⟩ := bi2_out hf
        refine cw_vi (As := [.int x1, .int y5]) (rest := []) ⟨hx, hb, hml, hown, hts⟩ xP_S hK hX0 hS hP (c_X8_walkFound hj l N x1 y5 f6 t y8 f9 hq10) (cwV 2 hts gX9_go_X8_walkFound rfl rfl rfl (by decide +kernel) ⟨Nat.le_trans (Nat.le_of_ble_eq_true rfl) hR.1, Nat.le_trans (Nat.le_of_ble_eq_true rfl) hR.2⟩) (va_recv hK hP (ci := 8) (q0 := 37) rfl rfl) rfl hl.1 rfl (Nat.le_of_ble_eq_true rfl) ⟨Nat.zero_le _, Nat.zero_le _⟩ dX9_go_54 (fun H locs hP hS => ?_)
        obtain ⟨rfl, rfl⟩ := Prod.mk.inj (Option.some.inj hf)
        exact kr H locs ls 57 dX9_go_57 hP hS
      · have hf := itT hf c39
        refine lv_bipush (v := (-2)) hx hb dX9_go_42 (by decide) ?_
        refine lv_goto (tgt := 57) hx hb dX9_go_44 (by decide) ?_
        obtain ⟨rfl, rfl⟩ := Prod.mk.inj (Option.some.inj hf)
        exact kr H locs ls 57 dX9_go_57 hP hS
    · have hf := itT hf c20
      refine lv_iconst (v := (-1)) hx hb dX9_go_23 (by decide) ?_
      obtain ⟨rfl, rfl⟩ := Prod.mk.inj (Option.some.inj hf)
      exact kr H locs ls 24 dX9_go_24 hP hS
set_option maxHeartbeats 4000000 in
set_option maxRecDepth 100000 in
theorem c_X9_go (hj : jP ad) (l : Launch) (N : Nat) (x1 : Int32) (x2 : Int32) (x3 : Int32) (f : mM) (t : Int64) (r : Int32) (fR : mM) (hf : q_X9_go N x1 x2 x3 f = some (r, fR)) : Met l yX9_go wsX9_go ({ frames := 18, cells := 0, slots := 0, locals := 421 }) (va_Pc ([.ref (ad 0), .int x1, .int x2, .int x3]) (pre D cy (wP ad cy) (xP ad sk sv) f t)) (va_Qi (fun (r2 : Int32) (u : mM × Int64) => r2 = r ∧ u = (fR, t)) (atW D (wP ad cy)) (aP ad)) 0 0 (aP ad) := by
  refine Met.ofW (cc := cX9_go) (maxL := 5) (ret := (some .int)) (by decide) rfl ?_
  intro p e s m args below meth c s₁ B hml hv
  obtain ⟨rfl, hP, hK, hX0⟩ := hv
  have hl := lv_entry ([.ref (ad 0), .int x1, .int x2, .int x3]) (n := 5) (Nat.le_of_ble_eq_true rfl)
  rw [lg_entry_eq]
  generalize (lg_sl ([.ref (ad 0), .int x1, .int x2, .int x3]) ++ List.replicate (5 - (lg_sl ([.ref (ad 0), .int x1, .int x2, .int x3])).length) Slot.unset).toArray = ls at hl ⊢
  have hlocks := B.notSynchronized
  exact b_X9_go ⟨B.exec, B.bytes, B.returns, hml, findClass_of_methodNamed B.named, atoms_spec (ws := wsX9_go) B.pre, hlocks, hK, hX0⟩ hj ⟨Nat.le_refl _, Nat.le_refl _⟩ N x1 x2 x3 f t r fR hf (fun H locs ls pc hd hP hS => W.iret B.exec B.bytes B.returns (fun t2 ht hW => ⟨⟨r, (fR, t), rfl, ⟨rfl, rfl⟩, by show va_P D vwCl _ t2.heap; rw [ht]; exact hP⟩, hS.F ht⟩) hS.2.2 hd) s.heap [] ls hP va_S.rf hl
def lp_X9_days_16 (N : Nat) (x1 : Int32) : Nat → Int32 → Int32 → mM → Option (Int32 × mM)
  | 0, _, _, _ => none
  | n + 1, x2, x3, f => if x1 ≤ x3 then some (x2, f) else bi2 (q_X8_runErrands N f) (fun y3 f4 => sq (x2 + y3) (fun x2_6 => sq (x3 + 1) (fun x3_7 => lp_X9_days_16 N x1 n x2_6 x3_7 f4)))
theorem lp_X9_days_16_s (N : Nat) (x1 : Int32) (n : Nat) (x2 : Int32) (x3 : Int32) (f : mM) : lp_X9_days_16 N x1 (n + 1) x2 x3 f = (if x1 ≤ x3 then some (x2, f) else bi2 (q_X8_runErrands N f) (fun y3 f4 => sq (x2 + y3) (fun x2_6 => sq (x3 + 1) (fun x3_7 => lp_X9_days_16 N x1 n x2_6 x3_7 f4)))) := rfl
set_option maxHeartbeats 4000000 in
set_option maxRecDepth 100000 in
theorem lp_X9_days_16_w (C0 : cX p s m args meth c cX9_days 4 (some .int) RX9 wsX9_days D cy (xP ad sk sv)) (hj : jP ad) (hR : 19 ≤ R.frames ∧ 445 ≤ R.locals) (N : Nat) (x1 : Int32) (t : Int64) (r2 : Int32) (fR : mM) (kx37 : ∀ (H : Heap) (locs : List Loc) (ls : Array Slot), va_P D vwCl (wP ad cy fR t) H → va_S (aP ad) s.heap H locs → lv_has ls 4 [(2, .int r2)] → W p l e R s m args below meth c H locs 0 0 Q (F0 m 37 ls [])) : ∀ (n : Nat) (x2 : Int32) (x3 : Int32) (f : mM), lp_X9_days_16 N x1 n x2 x3 f = some (r2, fR) → ∀ (H : Heap) (locs : List Loc) (ls : Array Slot), va_P D vwCl (wP ad cy f t) H → va_S (aP ad) s.heap H locs → lv_has ls 4 [(0, .ref (ad 0)), (1, .int x1), (2, .int x2), (3, .int x3)] → W p l e R s m args below meth c H locs 0 0 Q (F0 m 16 ls []) := by
  obtain ⟨hx, hb, hr, hml, hown, hts, hlocks, hK, hX0⟩ := id C0
  have lk52 := hts (.fieldLink RX9 52 "PlankNine" "ways" "LPlankNine$Ways;") (List.mem_of_getElem? (i := 1) rfl)
  have hiX9 : ∀ w ∈ u_ws RX9 TX9 11, w ∈ wsX9_days := fun w h => List.mem_cons_of_mem _ (List.mem_append_left _ (List.mem_append_left _ (List.mem_append_left _ (List.mem_append_right _ h))))
  intro n
  induction n with
  | zero =>
    intro x2 x3 f hf
    exact no_none hf
  | succ n ih =>
    intro x2 x3 f hf H locs ls hP hS hl
    have hf := (lp_X9_days_16_s N x1 n x2 x3 f).symm.trans hf
    refine lv_iload_n hx hb dX9_days_16 rfl (lv_at hl 3 rfl) ?_
    refine lv_iload_n hx hb dX9_days_17 rfl (lv_at hl 1 rfl) ?_
    refine lv_icmp_ge (tgt := 37) hx hb dX9_days_18 (by decide) (fun c18 => ?_) (fun c18 => ?_)
    · have hf := itT hf c18
      have hg_0 := Option.some.inj hf
      obtain ⟨rfl, rfl⟩ := Prod.mk.inj hg_0
      exact kx37 H locs ls hP hS (lv_sub hl [2] rfl)
    · have hf := itF hf c18
      refine lv_iload_n hx hb dX9_days_21 rfl (lv_at hl 2 rfl) ?_
      refine lv_aload_n hx hb dX9_days_22 rfl (lv_at hl 0 rfl) ?_
      refine va_get (D := D) (ci := 9) (v := .ref (ad 37)) (C := RX9) (T := TX9) (N := 11) hx hb hts hiX9 hown hK hP 0 rfl rfl 6 (by decide) lk52 (fun _ h9 => h9) rfl dX9_days_23 ?_
      obtain ⟨y3, f4, hq5, hf⟩ := bi2_out hf
      refine cw_vi (As := []) (rest := [.int x2]) ⟨hx, hb, hml, hown, hts⟩ xP_S hK hX0 hS hP (c_X8_runErrands hj l N f t y3 f4 hq5) (cwV 0 hts gX9_days_X8_runErrands rfl rfl rfl (by decide +kernel) ⟨Nat.le_trans (Nat.le_of_ble_eq_true rfl) hR.1, Nat.le_trans (Nat.le_of_ble_eq_true rfl) hR.2⟩) (va_recv hK hP (ci := 8) (q0 := 37) rfl rfl) rfl hl.1 rfl (Nat.le_of_ble_eq_true rfl) ⟨Nat.zero_le _, Nat.zero_le _⟩ dX9_days_26 (fun H locs hP hS => ?_)
      refine lv_iadd hx hb dX9_days_29 ?_
      obtain ⟨x2_6, ex2_6, hf⟩ := sq_out hf
      refine lv_nmi ex2_6 ?_
      refine lv_istore_n (lv' := [(2, .int x2_6), (0, .ref (ad 0)), (1, .int x1), (3, .int x3)]) hx hb dX9_days_30 rfl hl (by decide) rfl (fun ls hl => ?_)
      obtain ⟨x3_7, ex3_7, hf⟩ := sq_out hf
      refine lv_iinc (v := x3_7) (lv' := [(3, .int x3_7), (2, .int x2_6), (0, .ref (ad 0)), (1, .int x1)]) hx hb dX9_days_31 hl (k := 3) rfl (by rw [ex3_7]; rfl) (by decide) rfl (fun ls hl => ?_)
      refine lv_goto (tgt := 16) hx hb dX9_days_34 (by decide) ?_
      exact ih x2_6 x3_7 f4 hf H locs ls hP hS (lv_sub hl [2, 3, 1, 0] rfl)
def q_X9_days (N : Nat) (x1 : Int32) (f : mM) : Option (Int32 × mM) := bi (q_X9_isWithin x1 1 9) (fun y1 => if y1 = 0 then some ((-1), f) else bi2 (lp_X9_days_16 N x1 N 0 0 f) (fun y8 f9 => some (y8, f9)))
set_option maxHeartbeats 4000000 in
set_option maxRecDepth 100000 in
theorem b_X9_days (C0 : cX p s m args meth c cX9_days 4 (some .int) RX9 wsX9_days D cy (xP ad sk sv)) (hj : jP ad) (hR : 19 ≤ R.frames ∧ 445 ≤ R.locals) (N : Nat) (x1 : Int32) (f : mM) (t : Int64) (r : Int32) (fR : mM) (hf : q_X9_days N x1 f = some (r, fR)) (kr : ∀ (H : Heap) (locs : List Loc) (ls : Array Slot) (pc : Nat), decode cX9_days pc = .ok (.ireturn, 1) → va_P D vwCl (wP ad cy fR t) H → va_S (aP ad) s.heap H locs → W p l e R s m args below meth c H locs 0 0 Q (F0 m pc ls [.int r])) (H : Heap) (locs : List Loc) (ls : Array Slot) (hP : va_P D vwCl (wP ad cy f t) H) (hS : va_S (aP ad) s.heap H locs) (hl : lv_has ls 4 [(0, .ref (ad 0)), (1, .int x1)]) : W p l e R s m args below meth c H locs 0 0 Q (F0 m 0 ls []) := by
  obtain ⟨hx, hb, hr, hml, hown, hts, hlocks, hK, hX0⟩ := id C0
  unfold q_X9_days at hf
  refine lv_iload_n hx hb dX9_days_0 rfl (lv_at hl 1 rfl) ?_
  refine lv_iconst (v := 1) hx hb dX9_days_1 (by decide) ?_
  refine lv_bipush (v := 9) hx hb dX9_days_2 (by decide) ?_
  obtain ⟨y1, hq2, hf⟩ := bi_out hf
  refine cw_si (As := [.int x1, .int 1, .int 9]) (rest := []) ⟨hx, hb, hml, hown, hts⟩ xP_S hK hX0 hS hP (c_X9_isWithin hj l x1 1 9 f t y1 hq2) (va_cwS 3 hts gX9_days_X9_isWithin rfl rfl rfl (by decide +kernel) ⟨Nat.le_trans (Nat.le_of_ble_eq_true rfl) hR.1, Nat.le_trans (Nat.le_of_ble_eq_true rfl) hR.2⟩) rfl hl.1 rfl (Nat.le_of_ble_eq_true rfl) ⟨Nat.zero_le _, Nat.zero_le _⟩ dX9_days_4 (fun H locs hP hS => ?_)
  refine lv_if_ne (tgt := 12) hx hb dX9_days_7 (by decide) (fun c7 => ?_) (fun c7 => ?_)
  · have hf := itF hf c7
    refine lv_iconst (v := 0) hx hb dX9_days_12 (by decide) ?_
    refine lv_istore_n (lv' := [(2, .int 0), (0, .ref (ad 0)), (1, .int x1)]) hx hb dX9_days_13 rfl hl (by decide) rfl (fun ls hl => ?_)
    refine lv_iconst (v := 0) hx hb dX9_days_14 (by decide) ?_
    refine lv_istore_n (lv' := [(3, .int 0), (2, .int 0), (0, .ref (ad 0)), (1, .int x1)]) hx hb dX9_days_15 rfl hl (by decide) rfl (fun ls hl => ?_)
    obtain ⟨y8, f9, hlp10, hf⟩ := bi2_out hf
    refine lp_X9_days_16_w C0 hj hR N x1 t y8 f9 ?_ N 0 0 f hlp10 H locs ls hP hS (lv_sub hl [2, 3, 1, 0] rfl)
    intro H locs ls hP hS hl
    refine lv_iload_n hx hb dX9_days_37 rfl (lv_at hl 0 rfl) ?_
    obtain ⟨rfl, rfl⟩ := Prod.mk.inj (Option.some.inj hf)
    exact kr H locs ls 38 dX9_days_38 hP hS
  · have hf := itT hf c7
    refine lv_iconst (v := (-1)) hx hb dX9_days_10 (by decide) ?_
    obtain ⟨rfl, rfl⟩ := Prod.mk.inj (Option.some.inj hf)
    exact kr H locs ls 11 dX9_days_11 hP hS
set_option maxHeartbeats 4000000 in
set_option maxRecDepth 100000 in
theorem c_X9_days (hj : jP ad) (l : Launch) (N : Nat) (x1 : Int32) (f : mM) (t : Int64) (r : Int32) (fR : mM) (hf : q_X9_days N x1 f = some (r, fR)) : Met l yX9_days wsX9_days ({ frames := 19, cells := 0, slots := 0, locals := 445 }) (va_Pc ([.ref (ad 0), .int x1]) (pre D cy (wP ad cy) (xP ad sk sv) f t)) (va_Qi (fun (r2 : Int32) (u : mM × Int64) => r2 = r ∧ u = (fR, t)) (atW D (wP ad cy)) (aP ad)) 0 0 (aP ad) := by
  refine Met.ofW (cc := cX9_days) (maxL := 4) (ret := (some .int)) (by decide) rfl ?_
  intro p e s m args below meth c s₁ B hml hv
  obtain ⟨rfl, hP, hK, hX0⟩ := hv
  have hl := lv_entry ([.ref (ad 0), .int x1]) (n := 4) (Nat.le_of_ble_eq_true rfl)
  rw [lg_entry_eq]
  generalize (lg_sl ([.ref (ad 0), .int x1]) ++ List.replicate (4 - (lg_sl ([.ref (ad 0), .int x1])).length) Slot.unset).toArray = ls at hl ⊢
  have hlocks := B.notSynchronized
  exact b_X9_days ⟨B.exec, B.bytes, B.returns, hml, findClass_of_methodNamed B.named, atoms_spec (ws := wsX9_days) B.pre, hlocks, hK, hX0⟩ hj ⟨Nat.le_refl _, Nat.le_refl _⟩ N x1 f t r fR hf (fun H locs ls pc hd hP hS => W.iret B.exec B.bytes B.returns (fun t2 ht hW => ⟨⟨r, (fR, t), rfl, ⟨rfl, rfl⟩, by show va_P D vwCl _ t2.heap; rw [ht]; exact hP⟩, hS.F ht⟩) hS.2.2 hd) s.heap [] ls hP va_S.rf hl
def q_X9_all (N : Nat) (x1 : Int32) (f : mM) : Option (Int32 × mM) := bi (q_X9_isWithin x1 0 1) (fun y1 => if y1 = 0 then some ((-1), f) else bi2 (q_X5_mostLeft N f) (fun y3 f4 => if x1 = 1 then some (y3, f4) else if y3 = (-9) then some (0, f4) else some (1, f4)))
set_option maxHeartbeats 4000000 in
set_option maxRecDepth 100000 in
theorem b_X9_all (C0 : cX p s m args meth c cX9_all 3 (some .int) RX9 wsX9_all D cy (xP ad sk sv)) (hj : jP ad) (hR : 43 ≤ R.frames ∧ 1070 ≤ R.locals) (N : Nat) (x1 : Int32) (f : mM) (t : Int64) (r : Int32) (fR : mM) (hf : q_X9_all N x1 f = some (r, fR)) (kr : ∀ (H : Heap) (locs : List Loc) (ls : Array Slot) (pc : Nat), decode cX9_all pc = .ok (.ireturn, 1) → va_P D vwCl (wP ad cy fR t) H → va_S (aP ad) s.heap H locs → W p l e R s m args below meth c H locs 0 0 Q (F0 m pc ls [.int r])) (H : Heap) (locs : List Loc) (ls : Array Slot) (hP : va_P D vwCl (wP ad cy f t) H) (hS : va_S (aP ad) s.heap H locs) (hl : lv_has ls 3 [(0, .ref (ad 0)), (1, .int x1)]) : W p l e R s m args below meth c H locs 0 0 Q (F0 m 0 ls []) := by
  obtain ⟨hx, hb, hr, hml, hown, hts, hlocks, hK, hX0⟩ := id C0
  have lk59 := hts (.fieldLink RX9 59 "PlankNine" "rows" "LPlankNine$Rows;") (List.mem_of_getElem? (i := 1) rfl)
  have hiX9 : ∀ w ∈ u_ws RX9 TX9 11, w ∈ wsX9_all := fun w h => List.mem_cons_of_mem _ (List.mem_append_left _ (List.mem_append_left _ (List.mem_append_left _ (List.mem_append_right _ h))))
  unfold q_X9_all at hf
  refine lv_iload_n hx hb dX9_all_0 rfl (lv_at hl 1 rfl) ?_
  refine lv_iconst (v := 0) hx hb dX9_all_1 (by decide) ?_
  refine lv_iconst (v := 1) hx hb dX9_all_2 (by decide) ?_
  obtain ⟨y1, hq2, hf⟩ := bi_out hf
  refine cw_si (As := [.int x1, .int 0, .int 1]) (rest := []) ⟨hx, hb, hml, hown, hts⟩ xP_S hK hX0 hS hP (c_X9_isWithin hj l x1 0 1 f t y1 hq2) (va_cwS 3 hts gX9_all_X9_isWithin rfl rfl rfl (by decide +kernel) ⟨Nat.le_trans (Nat.le_of_ble_eq_true rfl) hR.1, Nat.le_trans (Nat.le_of_ble_eq_true rfl) hR.2⟩) rfl hl.1 rfl (Nat.le_of_ble_eq_true rfl) ⟨Nat.zero_le _, Nat.zero_le _⟩ dX9_all_3 (fun H locs hP hS => ?_)
  refine lv_if_ne (tgt := 11) hx hb dX9_all_6 (by decide) (fun c6 => ?_) (fun c6 => ?_)
  · have hf := itF hf c6
    refine lv_aload_n hx hb dX9_all_11 rfl (lv_at hl 0 rfl) ?_
    refine va_get (D := D) (ci := 9) (v := .ref (ad 39)) (C := RX9) (T := TX9) (N := 11) hx hb hts hiX9 hown hK hP 0 rfl rfl 7 (by decide) lk59 (fun _ h9 => h9) rfl dX9_all_12 ?_
    obtain ⟨y3, f4, hq5, hf⟩ := bi2_out hf
    refine cw_vi (As := []) (rest := []) ⟨hx, hb, hml, hown, hts⟩ xP_S hK hX0 hS hP (c_X5_mostLeft hj l N f t y3 f4 hq5) (cwV 0 hts gX9_all_X5_mostLeft rfl rfl rfl (by decide +kernel) ⟨Nat.le_trans (Nat.le_of_ble_eq_true rfl) hR.1, Nat.le_trans (Nat.le_of_ble_eq_true rfl) hR.2⟩) (va_recv hK hP (ci := 5) (q0 := 39) rfl rfl) rfl hl.1 rfl (Nat.le_of_ble_eq_true rfl) ⟨Nat.zero_le _, Nat.zero_le _⟩ dX9_all_15 (fun H locs hP hS => ?_)
    refine lv_istore_n (lv' := [(2, .int y3), (0, .ref (ad 0)), (1, .int x1)]) hx hb dX9_all_18 rfl hl (by decide) rfl (fun ls hl => ?_)
    refine lv_iload_n hx hb dX9_all_19 rfl (lv_at hl 2 rfl) ?_
    refine lv_iconst (v := 1) hx hb dX9_all_20 (by decide) ?_
    refine lv_icmp_ne (tgt := 26) hx hb dX9_all_21 (by decide) (fun c21 => ?_) (fun c21 => ?_)
    · have hf := itF hf c21
      refine lv_iload_n hx hb dX9_all_26 rfl (lv_at hl 0 rfl) ?_
      refine lv_bipush (v := (-9)) hx hb dX9_all_27 (by decide) ?_
      refine lv_icmp_ne (tgt := 36) hx hb dX9_all_29 (by decide) (fun c29 => ?_) (fun c29 => ?_)
      · have hf := itF hf c29
        refine lv_iconst (v := 1) hx hb dX9_all_36 (by decide) ?_
        obtain ⟨rfl, rfl⟩ := Prod.mk.inj (Option.some.inj hf)
        exact kr H locs ls 37 dX9_all_37 hP hS
      · have hf := itT hf c29
        refine lv_iconst (v := 0) hx hb dX9_all_32 (by decide) ?_
        refine lv_goto (tgt := 37) hx hb dX9_all_33 (by decide) ?_
        obtain ⟨rfl, rfl⟩ := Prod.mk.inj (Option.some.inj hf)
        exact kr H locs ls 37 dX9_all_37 hP hS
    · have hf := itT hf c21
      refine lv_iload_n hx hb dX9_all_24 rfl (lv_at hl 0 rfl) ?_
      obtain ⟨rfl, rfl⟩ := Prod.mk.inj (Option.some.inj hf)
      exact kr H locs ls 25 dX9_all_25 hP hS
  · have hf := itT hf c6
    refine lv_iconst (v := (-1)) hx hb dX9_all_9 (by decide) ?_
    obtain ⟨rfl, rfl⟩ := Prod.mk.inj (Option.some.inj hf)
    exact kr H locs ls 10 dX9_all_10 hP hS
set_option maxHeartbeats 4000000 in
set_option maxRecDepth 100000 in
theorem c_X9_all (hj : jP ad) (l : Launch) (N : Nat) (x1 : Int32) (f : mM) (t : Int64) (r : Int32) (fR : mM) (hf : q_X9_all N x1 f = some (r, fR)) : Met l yX9_all wsX9_all ({ frames := 43, cells := 0, slots := 0, locals := 1070 }) (va_Pc ([.ref (ad 0), .int x1]) (pre D cy (wP ad cy) (xP ad sk sv) f t)) (va_Qi (fun (r2 : Int32) (u : mM × Int64) => r2 = r ∧ u = (fR, t)) (atW D (wP ad cy)) (aP ad)) 0 0 (aP ad) := by
  refine Met.ofW (cc := cX9_all) (maxL := 3) (ret := (some .int)) (by decide) rfl ?_
  intro p e s m args below meth c s₁ B hml hv
  obtain ⟨rfl, hP, hK, hX0⟩ := hv
  have hl := lv_entry ([.ref (ad 0), .int x1]) (n := 3) (Nat.le_of_ble_eq_true rfl)
  rw [lg_entry_eq]
  generalize (lg_sl ([.ref (ad 0), .int x1]) ++ List.replicate (3 - (lg_sl ([.ref (ad 0), .int x1])).length) Slot.unset).toArray = ls at hl ⊢
  have hlocks := B.notSynchronized
  exact b_X9_all ⟨B.exec, B.bytes, B.returns, hml, findClass_of_methodNamed B.named, atoms_spec (ws := wsX9_all) B.pre, hlocks, hK, hX0⟩ hj ⟨Nat.le_refl _, Nat.le_refl _⟩ N x1 f t r fR hf (fun H locs ls pc hd hP hS => W.iret B.exec B.bytes B.returns (fun t2 ht hW => ⟨⟨r, (fR, t), rfl, ⟨rfl, rfl⟩, by show va_P D vwCl _ t2.heap; rw [ht]; exact hP⟩, hS.F ht⟩) hS.2.2 hd) s.heap [] ls hP va_S.rf hl
