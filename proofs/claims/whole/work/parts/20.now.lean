variable {p : Program} {l : Launch} {e : Env} {R : Room} {s : State} {m : MethodId} {args : Array Value} {below : List Frame} {meth : Method} {c : Code} {Q : State → Prop} {D : va_G} {cy : Nat → ClassId} {ad sk sv : Nat → Nat}
def q_X3_canTake (x1 : Int32) (x2 : Int32) (f : mM) : Option (Int32) := gi x1 9 (if (f 24 (Int32.toNatClampNeg x1)) ≤ 0 then rz 0 (some 0) else gi x1 9 (if (f 24 (Int32.toNatClampNeg x1)) < x2 then rz 0 (some 0) else rz 1 (some 1)))
set_option maxHeartbeats 4000000 in
set_option maxRecDepth 100000 in
theorem b_X3_canTake (C0 : cX p s m args meth c cX3_canTake 3 (some .boolean) RX3 wsX3_canTake D cy (xP ad sk sv)) (hj : jP ad) (hR : 0 ≤ R.frames ∧ 0 ≤ R.locals) (x1 : Int32) (x2 : Int32) (f : mM) (t : Int64) (r : Int32) (hf : q_X3_canTake x1 x2 f = some r) (kr : ∀ (H : Heap) (locs : List Loc) (ls : Array Slot) (pc : Nat), decode cX3_canTake pc = .ok (.ireturn, 1) → narrow .boolean (.int r) = .int r → va_P D vwCl (wP ad cy f t) H → va_S (aP ad) s.heap H locs → W p l e R s m args below meth c H locs 0 0 Q (F0 m pc ls [.int r])) (H : Heap) (locs : List Loc) (ls : Array Slot) (hP : va_P D vwCl (wP ad cy f t) H) (hS : va_S (aP ad) s.heap H locs) (hl : lv_has ls 3 [(0, .ref (ad 23)), (1, .int x1), (2, .int x2)]) : W p l e R s m args below meth c H locs 0 0 Q (F0 m 0 ls []) := by
  obtain ⟨hx, hb, hr, hml, hown, hts, hlocks, hK, hX0⟩ := id C0
  have lk9 := hts (.fieldLink RX3 9 "PlankNine$Now" "bears" "[I") (List.mem_of_getElem? (i := 1) rfl)
  have hiX3 : ∀ w ∈ u_ws RX3 TX3 4, w ∈ wsX3_canTake := fun w h => List.mem_cons_of_mem _ (List.mem_append_right _ h)
  unfold q_X3_canTake at hf
  refine lv_aload_n hx hb dX3_canTake_0 rfl (lv_at hl 0 rfl) ?_
  refine va_get (D := D) (ci := 3) (v := .ref (ad 24)) (C := RX3) (T := TX3) (N := 4) hx hb hts hiX3 hown hK hP 23 rfl rfl 0 (by decide) lk9 (fun _ h9 => h9) rfl dX3_canTake_1 ?_
  refine lv_iload_n hx hb dX3_canTake_4 rfl (lv_at hl 1 rfl) ?_
  obtain ⟨hin1, hf⟩ := gi_out hf
  refine va_iald hx hb hK hP 24 1 rfl rfl hin1 dX3_canTake_5 ?_
  refine lv_if_le (tgt := 23) hx hb dX3_canTake_6 (by decide) (fun c6 => ?_) (fun c6 => ?_)
  · have hf := itT hf c6
    refine lv_iconst (v := 0) hx hb dX3_canTake_23 (by decide) ?_
    obtain ⟨hz, hf⟩ := rz_out hf
    obtain rfl := Option.some.inj hf
    exact kr H locs ls 24 dX3_canTake_24 hz hP hS
  · have hf := itF hf c6
    refine lv_aload_n hx hb dX3_canTake_9 rfl (lv_at hl 0 rfl) ?_
    refine va_get (D := D) (ci := 3) (v := .ref (ad 24)) (C := RX3) (T := TX3) (N := 4) hx hb hts hiX3 hown hK hP 23 rfl rfl 0 (by decide) lk9 (fun _ h9 => h9) rfl dX3_canTake_10 ?_
    refine lv_iload_n hx hb dX3_canTake_13 rfl (lv_at hl 1 rfl) ?_
    obtain ⟨hin2, hf⟩ := gi_out hf
    refine va_iald hx hb hK hP 24 1 rfl rfl hin2 dX3_canTake_14 ?_
    refine lv_iload_n hx hb dX3_canTake_15 rfl (lv_at hl 2 rfl) ?_
    refine lv_icmp_lt (tgt := 23) hx hb dX3_canTake_16 (by decide) (fun c16 => ?_) (fun c16 => ?_)
    · have hf := itT hf c16
      refine lv_iconst (v := 0) hx hb dX3_canTake_23 (by decide) ?_
      obtain ⟨hz, hf⟩ := rz_out hf
      obtain rfl := Option.some.inj hf
      exact kr H locs ls 24 dX3_canTake_24 hz hP hS
    · have hf := itF hf c16
      refine lv_iconst (v := 1) hx hb dX3_canTake_19 (by decide) ?_
      refine lv_goto (tgt := 24) hx hb dX3_canTake_20 (by decide) ?_
      obtain ⟨hz, hf⟩ := rz_out hf
      obtain rfl := Option.some.inj hf
      exact kr H locs ls 24 dX3_canTake_24 hz hP hS
set_option maxHeartbeats 4000000 in
set_option maxRecDepth 100000 in
theorem c_X3_canTake (hj : jP ad) (l : Launch) (x1 : Int32) (x2 : Int32) (f : mM) (t : Int64) (r : Int32) (hf : q_X3_canTake x1 x2 f = some r) : Met l yX3_canTake wsX3_canTake ({ frames := 0, cells := 0, slots := 0, locals := 0 }) (va_Pc ([.ref (ad 23), .int x1, .int x2]) (pre D cy (wP ad cy) (xP ad sk sv) f t)) (va_Qi (fun (r2 : Int32) (u : mM × Int64) => r2 = r ∧ u = (f, t)) (atW D (wP ad cy)) (aP ad)) 0 0 (aP ad) := by
  refine Met.ofW (cc := cX3_canTake) (maxL := 3) (ret := (some .boolean)) (by decide) rfl ?_
  intro p e s m args below meth c s₁ B hml hv
  obtain ⟨rfl, hP, hK, hX0⟩ := hv
  have hl := lv_entry ([.ref (ad 23), .int x1, .int x2]) (n := 3) (Nat.le_of_ble_eq_true rfl)
  rw [lg_entry_eq]
  generalize (lg_sl ([.ref (ad 23), .int x1, .int x2]) ++ List.replicate (3 - (lg_sl ([.ref (ad 23), .int x1, .int x2])).length) Slot.unset).toArray = ls at hl ⊢
  have hlocks := B.notSynchronized
  exact b_X3_canTake ⟨B.exec, B.bytes, B.returns, hml, findClass_of_methodNamed B.named, atoms_spec (ws := wsX3_canTake) B.pre, hlocks, hK, hX0⟩ hj ⟨Nat.le_refl _, Nat.le_refl _⟩ x1 x2 f t r hf (fun H locs ls pc hd hz hP hS => W.zret B.exec B.bytes B.returns hz (fun t2 ht hW => ⟨⟨r, (f, t), rfl, ⟨rfl, rfl⟩, by show va_P D vwCl _ t2.heap; rw [ht]; exact hP⟩, hS.F ht⟩) hS.2.2 hd) s.heap [] ls hP va_S.rf hl
def q_X3_take (x1 : Int32) (x2 : Int32) (x3 : Int32) (f : mM) : Option (Int32 × mM) := gi x1 9 (gi x1 9 (sq (st2 f 24 (Int32.toNatClampNeg x1) ((f 24 (Int32.toNatClampNeg x1)) - x2)) (fun f3 => gi x1 9 (if (f3 24 (Int32.toNatClampNeg x1)) ≤ 0 then if 20 ≤ (f3 23 3) then rz 1 (some (1, f3)) else gi (f3 23 3) 20 (sq (st2 f3 25 (Int32.toNatClampNeg (f3 23 3)) x1) (fun f6 => gi (f6 23 3) 20 (sq (st2 f6 26 (Int32.toNatClampNeg (f6 23 3)) x3) (fun f8 => sq (st2 f8 23 3 ((f8 23 3) + 1)) (fun f9 => rz 1 (some (1, f9))))))) else rz 0 (some (0, f3))))))
set_option maxHeartbeats 4000000 in
set_option maxRecDepth 100000 in
theorem b_X3_take (C0 : cX p s m args meth c cX3_take 4 (some .boolean) RX3 wsX3_take D cy (xP ad sk sv)) (hj : jP ad) (hR : 0 ≤ R.frames ∧ 0 ≤ R.locals) (x1 : Int32) (x2 : Int32) (x3 : Int32) (f : mM) (t : Int64) (r : Int32) (fR : mM) (hf : q_X3_take x1 x2 x3 f = some (r, fR)) (kr : ∀ (H : Heap) (locs : List Loc) (ls : Array Slot) (pc : Nat), decode cX3_take pc = .ok (.ireturn, 1) → narrow .boolean (.int r) = .int r → va_P D vwCl (wP ad cy fR t) H → va_S (aP ad) s.heap H locs → W p l e R s m args below meth c H locs 0 0 Q (F0 m pc ls [.int r])) (H : Heap) (locs : List Loc) (ls : Array Slot) (hP : va_P D vwCl (wP ad cy f t) H) (hS : va_S (aP ad) s.heap H locs) (hl : lv_has ls 4 [(0, .ref (ad 23)), (1, .int x1), (2, .int x2), (3, .int x3)]) : W p l e R s m args below meth c H locs 0 0 Q (F0 m 0 ls []) := by
  obtain ⟨hx, hb, hr, hml, hown, hts, hlocks, hK, hX0⟩ := id C0
  have lk9 := hts (.fieldLink RX3 9 "PlankNine$Now" "bears" "[I") (List.mem_of_getElem? (i := 1) rfl)
  have hiX3 : ∀ w ∈ u_ws RX3 TX3 4, w ∈ wsX3_take := fun w h => List.mem_cons_of_mem _ (List.mem_append_right _ h)
  have lk21 := hts (.fieldLink RX3 21 "PlankNine$Now" "known" "I") (List.mem_of_getElem? (i := 2) rfl)
  have lk15 := hts (.fieldLink RX3 15 "PlankNine$Now" "wentPlank" "[I") (List.mem_of_getElem? (i := 3) rfl)
  have lk18 := hts (.fieldLink RX3 18 "PlankNine$Now" "wentWith" "[I") (List.mem_of_getElem? (i := 4) rfl)
  unfold q_X3_take at hf
  refine lv_aload_n hx hb dX3_take_0 rfl (lv_at hl 0 rfl) ?_
  refine va_get (D := D) (ci := 3) (v := .ref (ad 24)) (C := RX3) (T := TX3) (N := 4) hx hb hts hiX3 hown hK hP 23 rfl rfl 0 (by decide) lk9 (fun _ h9 => h9) rfl dX3_take_1 ?_
  refine lv_iload_n hx hb dX3_take_4 rfl (lv_at hl 1 rfl) ?_
  refine lv_dup2_11 hx hb dX3_take_5 rfl rfl ?_
  obtain ⟨hin1, hf⟩ := gi_out hf
  refine va_iald hx hb hK hP 24 1 rfl rfl hin1 dX3_take_6 ?_
  refine lv_iload_n hx hb dX3_take_7 rfl (lv_at hl 2 rfl) ?_
  refine lv_isub hx hb dX3_take_8 ?_
  obtain ⟨hin2, hf⟩ := gi_out hf
  obtain ⟨f3, ef3, hf⟩ := sq_out hf
  refine va_iast hx hb hK hP (dP hj f t) hS 24 1 rfl rfl hin2 dX3_take_9 (fun H locs hP _ hS => ?_)
  have hP := sP_24 ef3 hP
  refine lv_aload_n hx hb dX3_take_10 rfl (lv_at hl 0 rfl) ?_
  refine va_get (D := D) (ci := 3) (v := .ref (ad 24)) (C := RX3) (T := TX3) (N := 4) hx hb hts hiX3 hown hK hP 23 rfl rfl 0 (by decide) lk9 (fun _ h9 => h9) rfl dX3_take_11 ?_
  refine lv_iload_n hx hb dX3_take_14 rfl (lv_at hl 1 rfl) ?_
  obtain ⟨hin4, hf⟩ := gi_out hf
  refine va_iald hx hb hK hP 24 1 rfl rfl hin4 dX3_take_15 ?_
  refine lv_if_le (tgt := 21) hx hb dX3_take_16 (by decide) (fun c16 => ?_) (fun c16 => ?_)
  · have hf := itT hf c16
    refine lv_aload_n hx hb dX3_take_21 rfl (lv_at hl 0 rfl) ?_
    refine va_get (D := D) (ci := 3) (v := .int (f3 23 3)) (C := RX3) (T := TX3) (N := 4) hx hb hts hiX3 hown hK hP 23 rfl rfl 3 (by decide) lk21 (fun _ h9 => h9) rfl dX3_take_22 ?_
    refine lv_bipush (v := 20) hx hb dX3_take_25 (by decide) ?_
    refine lv_icmp_ge (tgt := 60) hx hb dX3_take_27 (by decide) (fun c27 => ?_) (fun c27 => ?_)
    · have hf := itT hf c27
      refine lv_iconst (v := 1) hx hb dX3_take_60 (by decide) ?_
      obtain ⟨hz, hf⟩ := rz_out hf
      obtain ⟨rfl, rfl⟩ := Prod.mk.inj (Option.some.inj hf)
      exact kr H locs ls 61 dX3_take_61 hz hP hS
    · have hf := itF hf c27
      refine lv_aload_n hx hb dX3_take_30 rfl (lv_at hl 0 rfl) ?_
      refine va_get (D := D) (ci := 3) (v := .ref (ad 25)) (C := RX3) (T := TX3) (N := 4) hx hb hts hiX3 hown hK hP 23 rfl rfl 1 (by decide) lk15 (fun _ h9 => h9) rfl dX3_take_31 ?_
      refine lv_aload_n hx hb dX3_take_34 rfl (lv_at hl 0 rfl) ?_
      refine va_get (D := D) (ci := 3) (v := .int (f3 23 3)) (C := RX3) (T := TX3) (N := 4) hx hb hts hiX3 hown hK hP 23 rfl rfl 3 (by decide) lk21 (fun _ h9 => h9) rfl dX3_take_35 ?_
      refine lv_iload_n hx hb dX3_take_38 rfl (lv_at hl 1 rfl) ?_
      obtain ⟨hin5, hf⟩ := gi_out hf
      obtain ⟨f6, ef6, hf⟩ := sq_out hf
      refine va_iast hx hb hK hP (dP hj f3 t) hS 25 1 rfl rfl hin5 dX3_take_39 (fun H locs hP _ hS => ?_)
      have hP := sP_25 ef6 hP
      refine lv_aload_n hx hb dX3_take_40 rfl (lv_at hl 0 rfl) ?_
      refine va_get (D := D) (ci := 3) (v := .ref (ad 26)) (C := RX3) (T := TX3) (N := 4) hx hb hts hiX3 hown hK hP 23 rfl rfl 2 (by decide) lk18 (fun _ h9 => h9) rfl dX3_take_41 ?_
      refine lv_aload_n hx hb dX3_take_44 rfl (lv_at hl 0 rfl) ?_
      refine va_get (D := D) (ci := 3) (v := .int (f6 23 3)) (C := RX3) (T := TX3) (N := 4) hx hb hts hiX3 hown hK hP 23 rfl rfl 3 (by decide) lk21 (fun _ h9 => h9) rfl dX3_take_45 ?_
      refine lv_iload_n hx hb dX3_take_48 rfl (lv_at hl 3 rfl) ?_
      obtain ⟨hin7, hf⟩ := gi_out hf
      obtain ⟨f8, ef8, hf⟩ := sq_out hf
      refine va_iast hx hb hK hP (dP hj f6 t) hS 26 1 rfl rfl hin7 dX3_take_49 (fun H locs hP _ hS => ?_)
      have hP := sP_26 ef8 hP
      refine lv_aload_n hx hb dX3_take_50 rfl (lv_at hl 0 rfl) ?_
      refine lv_dup hx hb dX3_take_51 rfl ?_
      refine va_get (D := D) (ci := 3) (v := .int (f8 23 3)) (C := RX3) (T := TX3) (N := 4) hx hb hts hiX3 hown hK hP 23 rfl rfl 3 (by decide) lk21 (fun _ h9 => h9) rfl dX3_take_52 ?_
      refine lv_iconst (v := 1) hx hb dX3_take_55 (by decide) ?_
      refine lv_iadd hx hb dX3_take_56 ?_
      obtain ⟨f9, ef9, hf⟩ := sq_out hf
      refine va_put (D := D) (ci := 3) (v := .int ((f8 23 3) + 1)) (ty := .int) (C := RX3) (T := TX3) (N := 4) hx hb hts hiX3 tyX3 tyX3_ok nmX3 hown hK hP (dP hj f8 t) hS 23 rfl rfl 3 (by decide) lk21 (fun _ h9 => h9) rfl (by decide +kernel) rfl rfl (Nat.le_of_ble_eq_true rfl) dX3_take_57 (fun H locs hP _ hS => ?_)
      have hP := sP_23_3 ef9 hP
      refine lv_iconst (v := 1) hx hb dX3_take_60 (by decide) ?_
      obtain ⟨hz, hf⟩ := rz_out hf
      obtain ⟨rfl, rfl⟩ := Prod.mk.inj (Option.some.inj hf)
      exact kr H locs ls 61 dX3_take_61 hz hP hS
  · have hf := itF hf c16
    refine lv_iconst (v := 0) hx hb dX3_take_19 (by decide) ?_
    obtain ⟨hz, hf⟩ := rz_out hf
    obtain ⟨rfl, rfl⟩ := Prod.mk.inj (Option.some.inj hf)
    exact kr H locs ls 20 dX3_take_20 hz hP hS
set_option maxHeartbeats 4000000 in
set_option maxRecDepth 100000 in
theorem c_X3_take (hj : jP ad) (l : Launch) (x1 : Int32) (x2 : Int32) (x3 : Int32) (f : mM) (t : Int64) (r : Int32) (fR : mM) (hf : q_X3_take x1 x2 x3 f = some (r, fR)) : Met l yX3_take wsX3_take ({ frames := 0, cells := 0, slots := 0, locals := 0 }) (va_Pc ([.ref (ad 23), .int x1, .int x2, .int x3]) (pre D cy (wP ad cy) (xP ad sk sv) f t)) (va_Qi (fun (r2 : Int32) (u : mM × Int64) => r2 = r ∧ u = (fR, t)) (atW D (wP ad cy)) (aP ad)) 0 0 (aP ad) := by
  refine Met.ofW (cc := cX3_take) (maxL := 4) (ret := (some .boolean)) (by decide) rfl ?_
  intro p e s m args below meth c s₁ B hml hv
  obtain ⟨rfl, hP, hK, hX0⟩ := hv
  have hl := lv_entry ([.ref (ad 23), .int x1, .int x2, .int x3]) (n := 4) (Nat.le_of_ble_eq_true rfl)
  rw [lg_entry_eq]
  generalize (lg_sl ([.ref (ad 23), .int x1, .int x2, .int x3]) ++ List.replicate (4 - (lg_sl ([.ref (ad 23), .int x1, .int x2, .int x3])).length) Slot.unset).toArray = ls at hl ⊢
  have hlocks := B.notSynchronized
  exact b_X3_take ⟨B.exec, B.bytes, B.returns, hml, findClass_of_methodNamed B.named, atoms_spec (ws := wsX3_take) B.pre, hlocks, hK, hX0⟩ hj ⟨Nat.le_refl _, Nat.le_refl _⟩ x1 x2 x3 f t r fR hf (fun H locs ls pc hd hz hP hS => W.zret B.exec B.bytes B.returns hz (fun t2 ht hW => ⟨⟨r, (fR, t), rfl, ⟨rfl, rfl⟩, by show va_P D vwCl _ t2.heap; rw [ht]; exact hP⟩, hS.F ht⟩) hS.2.2 hd) s.heap [] ls hP va_S.rf hl
def lp_X3_freeze_4 (N : Nat)  : Nat → Int32 → Int32 → mM → Option (Int32 × mM)
  | 0, _, _, _ => none
  | n + 1, x1, x2, f => if 9 ≤ x2 then some (x1, f) else gi x2 9 (if (f 24 (Int32.toNatClampNeg x2)) ≤ 0 then sq (x2 + 1) (fun x2_2 => lp_X3_freeze_4 N n x1 x2_2 f) else gi x2 9 (if 9 ≤ (f 24 (Int32.toNatClampNeg x2)) then sq (x2 + 1) (fun x2_4 => lp_X3_freeze_4 N n x1 x2_4 f) else gi x2 9 (gi x2 9 (sq (st2 f 24 (Int32.toNatClampNeg x2) ((f 24 (Int32.toNatClampNeg x2)) + 1)) (fun f7 => sq (x1 + 1) (fun x1_8 => sq (x2 + 1) (fun x2_9 => lp_X3_freeze_4 N n x1_8 x2_9 f7)))))))
theorem lp_X3_freeze_4_s (N : Nat)  (n : Nat) (x1 : Int32) (x2 : Int32) (f : mM) : lp_X3_freeze_4 N (n + 1) x1 x2 f = (if 9 ≤ x2 then some (x1, f) else gi x2 9 (if (f 24 (Int32.toNatClampNeg x2)) ≤ 0 then sq (x2 + 1) (fun x2_2 => lp_X3_freeze_4 N n x1 x2_2 f) else gi x2 9 (if 9 ≤ (f 24 (Int32.toNatClampNeg x2)) then sq (x2 + 1) (fun x2_4 => lp_X3_freeze_4 N n x1 x2_4 f) else gi x2 9 (gi x2 9 (sq (st2 f 24 (Int32.toNatClampNeg x2) ((f 24 (Int32.toNatClampNeg x2)) + 1)) (fun f7 => sq (x1 + 1) (fun x1_8 => sq (x2 + 1) (fun x2_9 => lp_X3_freeze_4 N n x1_8 x2_9 f7)))))))) := rfl
set_option maxHeartbeats 4000000 in
set_option maxRecDepth 100000 in
theorem lp_X3_freeze_4_w (C0 : cX p s m args meth c cX3_freeze 3 (some .int) RX3 wsX3_freeze D cy (xP ad sk sv)) (hj : jP ad) (hR : 0 ≤ R.frames ∧ 0 ≤ R.locals) (N : Nat)  (t : Int64) (r1 : Int32) (fR : mM) (kx49 : ∀ (H : Heap) (locs : List Loc) (ls : Array Slot), va_P D vwCl (wP ad cy fR t) H → va_S (aP ad) s.heap H locs → lv_has ls 3 [(1, .int r1)] → W p l e R s m args below meth c H locs 0 0 Q (F0 m 49 ls [])) : ∀ (n : Nat) (x1 : Int32) (x2 : Int32) (f : mM), lp_X3_freeze_4 N n x1 x2 f = some (r1, fR) → ∀ (H : Heap) (locs : List Loc) (ls : Array Slot), va_P D vwCl (wP ad cy f t) H → va_S (aP ad) s.heap H locs → lv_has ls 3 [(0, .ref (ad 23)), (1, .int x1), (2, .int x2)] → W p l e R s m args below meth c H locs 0 0 Q (F0 m 4 ls []) := by
  obtain ⟨hx, hb, hr, hml, hown, hts, hlocks, hK, hX0⟩ := id C0
  have lk9 := hts (.fieldLink RX3 9 "PlankNine$Now" "bears" "[I") (List.mem_of_getElem? (i := 1) rfl)
  have hiX3 : ∀ w ∈ u_ws RX3 TX3 4, w ∈ wsX3_freeze := fun w h => List.mem_cons_of_mem _ (List.mem_append_right _ h)
  intro n
  induction n with
  | zero =>
    intro x1 x2 f hf
    exact no_none hf
  | succ n ih =>
    intro x1 x2 f hf H locs ls hP hS hl
    have hf := (lp_X3_freeze_4_s N n x1 x2 f).symm.trans hf
    refine lv_iload_n hx hb dX3_freeze_4 rfl (lv_at hl 2 rfl) ?_
    refine lv_bipush (v := 9) hx hb dX3_freeze_5 (by decide) ?_
    refine lv_icmp_ge (tgt := 49) hx hb dX3_freeze_7 (by decide) (fun c7 => ?_) (fun c7 => ?_)
    · have hf := itT hf c7
      have hg_0 := Option.some.inj hf
      obtain ⟨rfl, rfl⟩ := Prod.mk.inj hg_0
      exact kx49 H locs ls hP hS (lv_sub hl [1] rfl)
    · have hf := itF hf c7
      refine lv_aload_n hx hb dX3_freeze_10 rfl (lv_at hl 0 rfl) ?_
      refine va_get (D := D) (ci := 3) (v := .ref (ad 24)) (C := RX3) (T := TX3) (N := 4) hx hb hts hiX3 hown hK hP 23 rfl rfl 0 (by decide) lk9 (fun _ h9 => h9) rfl dX3_freeze_11 ?_
      refine lv_iload_n hx hb dX3_freeze_14 rfl (lv_at hl 2 rfl) ?_
      obtain ⟨hin1, hf⟩ := gi_out hf
      refine va_iald hx hb hK hP 24 1 rfl rfl hin1 dX3_freeze_15 ?_
      refine lv_if_le (tgt := 43) hx hb dX3_freeze_16 (by decide) (fun c16 => ?_) (fun c16 => ?_)
      · have hf := itT hf c16
        obtain ⟨x2_2, ex2_2, hf⟩ := sq_out hf
        refine lv_iinc (v := x2_2) (lv' := [(2, .int x2_2), (0, .ref (ad 23)), (1, .int x1)]) hx hb dX3_freeze_43 hl (k := 2) rfl (by rw [ex2_2]; rfl) (by decide) rfl (fun ls hl => ?_)
        refine lv_goto (tgt := 4) hx hb dX3_freeze_46 (by decide) ?_
        exact ih x1 x2_2 f hf H locs ls hP hS (lv_sub hl [1, 2, 0] rfl)
      · have hf := itF hf c16
        refine lv_aload_n hx hb dX3_freeze_19 rfl (lv_at hl 0 rfl) ?_
        refine va_get (D := D) (ci := 3) (v := .ref (ad 24)) (C := RX3) (T := TX3) (N := 4) hx hb hts hiX3 hown hK hP 23 rfl rfl 0 (by decide) lk9 (fun _ h9 => h9) rfl dX3_freeze_20 ?_
        refine lv_iload_n hx hb dX3_freeze_23 rfl (lv_at hl 2 rfl) ?_
        obtain ⟨hin3, hf⟩ := gi_out hf
        refine va_iald hx hb hK hP 24 1 rfl rfl hin3 dX3_freeze_24 ?_
        refine lv_bipush (v := 9) hx hb dX3_freeze_25 (by decide) ?_
        refine lv_icmp_ge (tgt := 43) hx hb dX3_freeze_27 (by decide) (fun c27 => ?_) (fun c27 => ?_)
        · have hf := itT hf c27
          obtain ⟨x2_4, ex2_4, hf⟩ := sq_out hf
          refine lv_iinc (v := x2_4) (lv' := [(2, .int x2_4), (0, .ref (ad 23)), (1, .int x1)]) hx hb dX3_freeze_43 hl (k := 2) rfl (by rw [ex2_4]; rfl) (by decide) rfl (fun ls hl => ?_)
          refine lv_goto (tgt := 4) hx hb dX3_freeze_46 (by decide) ?_
          exact ih x1 x2_4 f hf H locs ls hP hS (lv_sub hl [1, 2, 0] rfl)
        · have hf := itF hf c27
          refine lv_aload_n hx hb dX3_freeze_30 rfl (lv_at hl 0 rfl) ?_
          refine va_get (D := D) (ci := 3) (v := .ref (ad 24)) (C := RX3) (T := TX3) (N := 4) hx hb hts hiX3 hown hK hP 23 rfl rfl 0 (by decide) lk9 (fun _ h9 => h9) rfl dX3_freeze_31 ?_
          refine lv_iload_n hx hb dX3_freeze_34 rfl (lv_at hl 2 rfl) ?_
          refine lv_dup2_11 hx hb dX3_freeze_35 rfl rfl ?_
          obtain ⟨hin5, hf⟩ := gi_out hf
          refine va_iald hx hb hK hP 24 1 rfl rfl hin5 dX3_freeze_36 ?_
          refine lv_iconst (v := 1) hx hb dX3_freeze_37 (by decide) ?_
          refine lv_iadd hx hb dX3_freeze_38 ?_
          obtain ⟨hin6, hf⟩ := gi_out hf
          obtain ⟨f7, ef7, hf⟩ := sq_out hf
          refine va_iast hx hb hK hP (dP hj f t) hS 24 1 rfl rfl hin6 dX3_freeze_39 (fun H locs hP _ hS => ?_)
          have hP := sP_24 ef7 hP
          obtain ⟨x1_8, ex1_8, hf⟩ := sq_out hf
          refine lv_iinc (v := x1_8) (lv' := [(1, .int x1_8), (0, .ref (ad 23)), (2, .int x2)]) hx hb dX3_freeze_40 hl (k := 1) rfl (by rw [ex1_8]; rfl) (by decide) rfl (fun ls hl => ?_)
          obtain ⟨x2_9, ex2_9, hf⟩ := sq_out hf
          refine lv_iinc (v := x2_9) (lv' := [(2, .int x2_9), (1, .int x1_8), (0, .ref (ad 23))]) hx hb dX3_freeze_43 hl (k := 2) rfl (by rw [ex2_9]; rfl) (by decide) rfl (fun ls hl => ?_)
          refine lv_goto (tgt := 4) hx hb dX3_freeze_46 (by decide) ?_
          exact ih x1_8 x2_9 f7 hf H locs ls hP hS (lv_sub hl [2, 1, 0] rfl)
def q_X3_freeze (N : Nat) (f : mM) : Option (Int32 × mM) := bi2 (lp_X3_freeze_4 N N 0 0 f) (fun y10 f11 => some (y10, f11))
set_option maxHeartbeats 4000000 in
set_option maxRecDepth 100000 in
theorem b_X3_freeze (C0 : cX p s m args meth c cX3_freeze 3 (some .int) RX3 wsX3_freeze D cy (xP ad sk sv)) (hj : jP ad) (hR : 0 ≤ R.frames ∧ 0 ≤ R.locals) (N : Nat)  (f : mM) (t : Int64) (r : Int32) (fR : mM) (hf : q_X3_freeze N f = some (r, fR)) (kr : ∀ (H : Heap) (locs : List Loc) (ls : Array Slot) (pc : Nat), decode cX3_freeze pc = .ok (.ireturn, 1) → va_P D vwCl (wP ad cy fR t) H → va_S (aP ad) s.heap H locs → W p l e R s m args below meth c H locs 0 0 Q (F0 m pc ls [.int r])) (H : Heap) (locs : List Loc) (ls : Array Slot) (hP : va_P D vwCl (wP ad cy f t) H) (hS : va_S (aP ad) s.heap H locs) (hl : lv_has ls 3 [(0, .ref (ad 23))]) : W p l e R s m args below meth c H locs 0 0 Q (F0 m 0 ls []) := by
  obtain ⟨hx, hb, hr, hml, hown, hts, hlocks, hK, hX0⟩ := id C0
  unfold q_X3_freeze at hf
  refine lv_iconst (v := 0) hx hb dX3_freeze_0 (by decide) ?_
  refine lv_istore_n (lv' := [(1, .int 0), (0, .ref (ad 23))]) hx hb dX3_freeze_1 rfl hl (by decide) rfl (fun ls hl => ?_)
  refine lv_iconst (v := 0) hx hb dX3_freeze_2 (by decide) ?_
  refine lv_istore_n (lv' := [(2, .int 0), (1, .int 0), (0, .ref (ad 23))]) hx hb dX3_freeze_3 rfl hl (by decide) rfl (fun ls hl => ?_)
  obtain ⟨y10, f11, hlp12, hf⟩ := bi2_out hf
  refine lp_X3_freeze_4_w C0 hj hR N t y10 f11 ?_ N 0 0 f hlp12 H locs ls hP hS (lv_sub hl [2, 1, 0] rfl)
  intro H locs ls hP hS hl
  refine lv_iload_n hx hb dX3_freeze_49 rfl (lv_at hl 0 rfl) ?_
  obtain ⟨rfl, rfl⟩ := Prod.mk.inj (Option.some.inj hf)
  exact kr H locs ls 50 dX3_freeze_50 hP hS
set_option maxHeartbeats 4000000 in
set_option maxRecDepth 100000 in
theorem c_X3_freeze (hj : jP ad) (l : Launch) (N : Nat)  (f : mM) (t : Int64) (r : Int32) (fR : mM) (hf : q_X3_freeze N f = some (r, fR)) : Met l yX3_freeze wsX3_freeze ({ frames := 0, cells := 0, slots := 0, locals := 0 }) (va_Pc ([.ref (ad 23)]) (pre D cy (wP ad cy) (xP ad sk sv) f t)) (va_Qi (fun (r2 : Int32) (u : mM × Int64) => r2 = r ∧ u = (fR, t)) (atW D (wP ad cy)) (aP ad)) 0 0 (aP ad) := by
  refine Met.ofW (cc := cX3_freeze) (maxL := 3) (ret := (some .int)) (by decide) rfl ?_
  intro p e s m args below meth c s₁ B hml hv
  obtain ⟨rfl, hP, hK, hX0⟩ := hv
  have hl := lv_entry ([.ref (ad 23)]) (n := 3) (Nat.le_of_ble_eq_true rfl)
  rw [lg_entry_eq]
  generalize (lg_sl ([.ref (ad 23)]) ++ List.replicate (3 - (lg_sl ([.ref (ad 23)])).length) Slot.unset).toArray = ls at hl ⊢
  have hlocks := B.notSynchronized
  exact b_X3_freeze ⟨B.exec, B.bytes, B.returns, hml, findClass_of_methodNamed B.named, atoms_spec (ws := wsX3_freeze) B.pre, hlocks, hK, hX0⟩ hj ⟨Nat.le_refl _, Nat.le_refl _⟩ N  f t r fR hf (fun H locs ls pc hd hP hS => W.iret B.exec B.bytes B.returns (fun t2 ht hW => ⟨⟨r, (fR, t), rfl, ⟨rfl, rfl⟩, by show va_P D vwCl _ t2.heap; rw [ht]; exact hP⟩, hS.F ht⟩) hS.2.2 hd) s.heap [] ls hP va_S.rf hl
def q_X3_swap (x1 : Int32) (x2 : Int32) (f : mM) : Option (mM) := gi x1 9 (sq (f 24 (Int32.toNatClampNeg x1)) (fun x3_2 => gi x2 9 (gi x1 9 (sq (st2 f 24 (Int32.toNatClampNeg x1) (f 24 (Int32.toNatClampNeg x2))) (fun f5 => gi x2 9 (sq (st2 f5 24 (Int32.toNatClampNeg x2) x3_2) (fun f7 => some f7)))))))
set_option maxHeartbeats 4000000 in
set_option maxRecDepth 100000 in
theorem b_X3_swap (C0 : cX p s m args meth c cX3_swap 4 none RX3 wsX3_swap D cy (xP ad sk sv)) (hj : jP ad) (hR : 0 ≤ R.frames ∧ 0 ≤ R.locals) (x1 : Int32) (x2 : Int32) (f : mM) (t : Int64) (fR : mM) (hf : q_X3_swap x1 x2 f = some fR) (kr : ∀ (H : Heap) (locs : List Loc) (ls : Array Slot) (pc : Nat), decode cX3_swap pc = .ok (.return_, 1) → va_P D vwCl (wP ad cy fR t) H → va_S (aP ad) s.heap H locs → W p l e R s m args below meth c H locs 0 0 Q (F0 m pc ls [])) (H : Heap) (locs : List Loc) (ls : Array Slot) (hP : va_P D vwCl (wP ad cy f t) H) (hS : va_S (aP ad) s.heap H locs) (hl : lv_has ls 4 [(0, .ref (ad 23)), (1, .int x1), (2, .int x2)]) : W p l e R s m args below meth c H locs 0 0 Q (F0 m 0 ls []) := by
  obtain ⟨hx, hb, hr, hml, hown, hts, hlocks, hK, hX0⟩ := id C0
  have lk9 := hts (.fieldLink RX3 9 "PlankNine$Now" "bears" "[I") (List.mem_of_getElem? (i := 1) rfl)
  have hiX3 : ∀ w ∈ u_ws RX3 TX3 4, w ∈ wsX3_swap := fun w h => List.mem_cons_of_mem _ (List.mem_append_right _ h)
  unfold q_X3_swap at hf
  refine lv_aload_n hx hb dX3_swap_0 rfl (lv_at hl 0 rfl) ?_
  refine va_get (D := D) (ci := 3) (v := .ref (ad 24)) (C := RX3) (T := TX3) (N := 4) hx hb hts hiX3 hown hK hP 23 rfl rfl 0 (by decide) lk9 (fun _ h9 => h9) rfl dX3_swap_1 ?_
  refine lv_iload_n hx hb dX3_swap_4 rfl (lv_at hl 1 rfl) ?_
  obtain ⟨hin1, hf⟩ := gi_out hf
  refine va_iald hx hb hK hP 24 1 rfl rfl hin1 dX3_swap_5 ?_
  obtain ⟨x3_2, ex3_2, hf⟩ := sq_out hf
  refine lv_nmi ex3_2 ?_
  refine lv_istore_n (lv' := [(3, .int x3_2), (0, .ref (ad 23)), (1, .int x1), (2, .int x2)]) hx hb dX3_swap_6 rfl hl (by decide) rfl (fun ls hl => ?_)
  refine lv_aload_n hx hb dX3_swap_7 rfl (lv_at hl 1 rfl) ?_
  refine va_get (D := D) (ci := 3) (v := .ref (ad 24)) (C := RX3) (T := TX3) (N := 4) hx hb hts hiX3 hown hK hP 23 rfl rfl 0 (by decide) lk9 (fun _ h9 => h9) rfl dX3_swap_8 ?_
  refine lv_iload_n hx hb dX3_swap_11 rfl (lv_at hl 2 rfl) ?_
  refine lv_aload_n hx hb dX3_swap_12 rfl (lv_at hl 1 rfl) ?_
  refine va_get (D := D) (ci := 3) (v := .ref (ad 24)) (C := RX3) (T := TX3) (N := 4) hx hb hts hiX3 hown hK hP 23 rfl rfl 0 (by decide) lk9 (fun _ h9 => h9) rfl dX3_swap_13 ?_
  refine lv_iload_n hx hb dX3_swap_16 rfl (lv_at hl 3 rfl) ?_
  obtain ⟨hin3, hf⟩ := gi_out hf
  refine va_iald hx hb hK hP 24 1 rfl rfl hin3 dX3_swap_17 ?_
  obtain ⟨hin4, hf⟩ := gi_out hf
  obtain ⟨f5, ef5, hf⟩ := sq_out hf
  refine va_iast hx hb hK hP (dP hj f t) hS 24 1 rfl rfl hin4 dX3_swap_18 (fun H locs hP _ hS => ?_)
  have hP := sP_24 ef5 hP
  refine lv_aload_n hx hb dX3_swap_19 rfl (lv_at hl 1 rfl) ?_
  refine va_get (D := D) (ci := 3) (v := .ref (ad 24)) (C := RX3) (T := TX3) (N := 4) hx hb hts hiX3 hown hK hP 23 rfl rfl 0 (by decide) lk9 (fun _ h9 => h9) rfl dX3_swap_20 ?_
  refine lv_iload_n hx hb dX3_swap_23 rfl (lv_at hl 3 rfl) ?_
  refine lv_iload_n hx hb dX3_swap_24 rfl (lv_at hl 0 rfl) ?_
  obtain ⟨hin6, hf⟩ := gi_out hf
  obtain ⟨f7, ef7, hf⟩ := sq_out hf
  refine va_iast hx hb hK hP (dP hj f5 t) hS 24 1 rfl rfl hin6 dX3_swap_25 (fun H locs hP _ hS => ?_)
  have hP := sP_24 ef7 hP
  obtain rfl := Option.some.inj hf
  exact kr H locs ls 26 dX3_swap_26 hP hS
set_option maxHeartbeats 4000000 in
set_option maxRecDepth 100000 in
theorem c_X3_swap (hj : jP ad) (l : Launch) (x1 : Int32) (x2 : Int32) (f : mM) (t : Int64) (fR : mM) (hf : q_X3_swap x1 x2 f = some fR) : Met l yX3_swap wsX3_swap ({ frames := 0, cells := 0, slots := 0, locals := 0 }) (va_Pc ([.ref (ad 23), .int x1, .int x2]) (pre D cy (wP ad cy) (xP ad sk sv) f t)) (va_Qv (fun (u : mM × Int64) => u = (fR, t)) (atW D (wP ad cy)) (aP ad)) 0 0 (aP ad) := by
  refine Met.ofW (cc := cX3_swap) (maxL := 4) (ret := none) (by decide) rfl ?_
  intro p e s m args below meth c s₁ B hml hv
  obtain ⟨rfl, hP, hK, hX0⟩ := hv
  have hl := lv_entry ([.ref (ad 23), .int x1, .int x2]) (n := 4) (Nat.le_of_ble_eq_true rfl)
  rw [lg_entry_eq]
  generalize (lg_sl ([.ref (ad 23), .int x1, .int x2]) ++ List.replicate (4 - (lg_sl ([.ref (ad 23), .int x1, .int x2])).length) Slot.unset).toArray = ls at hl ⊢
  have hlocks := B.notSynchronized
  exact b_X3_swap ⟨B.exec, B.bytes, B.returns, hml, findClass_of_methodNamed B.named, atoms_spec (ws := wsX3_swap) B.pre, hlocks, hK, hX0⟩ hj ⟨Nat.le_refl _, Nat.le_refl _⟩ x1 x2 f t fR hf (fun H locs ls pc hd hP hS => W.vret B.exec B.bytes B.returns (fun t2 ht hW => ⟨⟨(fR, t), rfl, rfl, by show va_P D vwCl _ t2.heap; rw [ht]; exact hP⟩, hS.F ht⟩) hS.2.2 hd) s.heap [] ls hP va_S.rf hl
def lp_X3_borneByAll_4 (N : Nat) (f : mM) : Nat → Int32 → Int32 → Option (Int32)
  | 0, _, _ => none
  | n + 1, x1, x2 => if 9 ≤ x2 then some x1 else gi x2 9 (sq (x1 + (f 24 (Int32.toNatClampNeg x2))) (fun x1_2 => sq (x2 + 1) (fun x2_3 => lp_X3_borneByAll_4 N f n x1_2 x2_3)))
theorem lp_X3_borneByAll_4_s (N : Nat) (f : mM) (n : Nat) (x1 : Int32) (x2 : Int32) : lp_X3_borneByAll_4 N f (n + 1) x1 x2 = (if 9 ≤ x2 then some x1 else gi x2 9 (sq (x1 + (f 24 (Int32.toNatClampNeg x2))) (fun x1_2 => sq (x2 + 1) (fun x2_3 => lp_X3_borneByAll_4 N f n x1_2 x2_3)))) := rfl
set_option maxHeartbeats 4000000 in
set_option maxRecDepth 100000 in
theorem lp_X3_borneByAll_4_w (C0 : cX p s m args meth c cX3_borneByAll 3 (some .int) RX3 wsX3_borneByAll D cy (xP ad sk sv)) (hj : jP ad) (hR : 0 ≤ R.frames ∧ 0 ≤ R.locals) (N : Nat)  (f : mM) (t : Int64) (r1 : Int32) (kx25 : ∀ (H : Heap) (locs : List Loc) (ls : Array Slot), va_P D vwCl (wP ad cy f t) H → va_S (aP ad) s.heap H locs → lv_has ls 3 [(1, .int r1)] → W p l e R s m args below meth c H locs 0 0 Q (F0 m 25 ls [])) : ∀ (n : Nat) (x1 : Int32) (x2 : Int32), lp_X3_borneByAll_4 N f n x1 x2 = some r1 → ∀ (H : Heap) (locs : List Loc) (ls : Array Slot), va_P D vwCl (wP ad cy f t) H → va_S (aP ad) s.heap H locs → lv_has ls 3 [(0, .ref (ad 23)), (1, .int x1), (2, .int x2)] → W p l e R s m args below meth c H locs 0 0 Q (F0 m 4 ls []) := by
  obtain ⟨hx, hb, hr, hml, hown, hts, hlocks, hK, hX0⟩ := id C0
  have lk9 := hts (.fieldLink RX3 9 "PlankNine$Now" "bears" "[I") (List.mem_of_getElem? (i := 1) rfl)
  have hiX3 : ∀ w ∈ u_ws RX3 TX3 4, w ∈ wsX3_borneByAll := fun w h => List.mem_cons_of_mem _ (List.mem_append_right _ h)
  intro n
  induction n with
  | zero =>
    intro x1 x2 hf
    exact no_none hf
  | succ n ih =>
    intro x1 x2 hf H locs ls hP hS hl
    have hf := (lp_X3_borneByAll_4_s N f n x1 x2).symm.trans hf
    refine lv_iload_n hx hb dX3_borneByAll_4 rfl (lv_at hl 2 rfl) ?_
    refine lv_bipush (v := 9) hx hb dX3_borneByAll_5 (by decide) ?_
    refine lv_icmp_ge (tgt := 25) hx hb dX3_borneByAll_7 (by decide) (fun c7 => ?_) (fun c7 => ?_)
    · have hf := itT hf c7
      obtain rfl := Option.some.inj hf
      exact kx25 H locs ls hP hS (lv_sub hl [1] rfl)
    · have hf := itF hf c7
      refine lv_iload_n hx hb dX3_borneByAll_10 rfl (lv_at hl 1 rfl) ?_
      refine lv_aload_n hx hb dX3_borneByAll_11 rfl (lv_at hl 0 rfl) ?_
      refine va_get (D := D) (ci := 3) (v := .ref (ad 24)) (C := RX3) (T := TX3) (N := 4) hx hb hts hiX3 hown hK hP 23 rfl rfl 0 (by decide) lk9 (fun _ h9 => h9) rfl dX3_borneByAll_12 ?_
      refine lv_iload_n hx hb dX3_borneByAll_15 rfl (lv_at hl 2 rfl) ?_
      obtain ⟨hin1, hf⟩ := gi_out hf
      refine va_iald hx hb hK hP 24 1 rfl rfl hin1 dX3_borneByAll_16 ?_
      refine lv_iadd hx hb dX3_borneByAll_17 ?_
      obtain ⟨x1_2, ex1_2, hf⟩ := sq_out hf
      refine lv_nmi ex1_2 ?_
      refine lv_istore_n (lv' := [(1, .int x1_2), (0, .ref (ad 23)), (2, .int x2)]) hx hb dX3_borneByAll_18 rfl hl (by decide) rfl (fun ls hl => ?_)
      obtain ⟨x2_3, ex2_3, hf⟩ := sq_out hf
      refine lv_iinc (v := x2_3) (lv' := [(2, .int x2_3), (1, .int x1_2), (0, .ref (ad 23))]) hx hb dX3_borneByAll_19 hl (k := 2) rfl (by rw [ex2_3]; rfl) (by decide) rfl (fun ls hl => ?_)
      refine lv_goto (tgt := 4) hx hb dX3_borneByAll_22 (by decide) ?_
      exact ih x1_2 x2_3 hf H locs ls hP hS (lv_sub hl [2, 1, 0] rfl)
def q_X3_borneByAll (N : Nat) (f : mM) : Option (Int32) := bi (lp_X3_borneByAll_4 N f N 0 0) (fun y4 => some y4)
set_option maxHeartbeats 4000000 in
set_option maxRecDepth 100000 in
theorem b_X3_borneByAll (C0 : cX p s m args meth c cX3_borneByAll 3 (some .int) RX3 wsX3_borneByAll D cy (xP ad sk sv)) (hj : jP ad) (hR : 0 ≤ R.frames ∧ 0 ≤ R.locals) (N : Nat)  (f : mM) (t : Int64) (r : Int32) (hf : q_X3_borneByAll N f = some r) (kr : ∀ (H : Heap) (locs : List Loc) (ls : Array Slot) (pc : Nat), decode cX3_borneByAll pc = .ok (.ireturn, 1) → va_P D vwCl (wP ad cy f t) H → va_S (aP ad) s.heap H locs → W p l e R s m args below meth c H locs 0 0 Q (F0 m pc ls [.int r])) (H : Heap) (locs : List Loc) (ls : Array Slot) (hP : va_P D vwCl (wP ad cy f t) H) (hS : va_S (aP ad) s.heap H locs) (hl : lv_has ls 3 [(0, .ref (ad 23))]) : W p l e R s m args below meth c H locs 0 0 Q (F0 m 0 ls []) := by
  obtain ⟨hx, hb, hr, hml, hown, hts, hlocks, hK, hX0⟩ := id C0
  unfold q_X3_borneByAll at hf
  refine lv_iconst (v := 0) hx hb dX3_borneByAll_0 (by decide) ?_
  refine lv_istore_n (lv' := [(1, .int 0), (0, .ref (ad 23))]) hx hb dX3_borneByAll_1 rfl hl (by decide) rfl (fun ls hl => ?_)
  refine lv_iconst (v := 0) hx hb dX3_borneByAll_2 (by decide) ?_
  refine lv_istore_n (lv' := [(2, .int 0), (1, .int 0), (0, .ref (ad 23))]) hx hb dX3_borneByAll_3 rfl hl (by decide) rfl (fun ls hl => ?_)
  obtain ⟨y4, hlp5, hf⟩ := bi_out hf
  refine lp_X3_borneByAll_4_w C0 hj hR N f t y4 ?_ N 0 0 hlp5 H locs ls hP hS (lv_sub hl [2, 1, 0] rfl)
  intro H locs ls hP hS hl
  refine lv_iload_n hx hb dX3_borneByAll_25 rfl (lv_at hl 0 rfl) ?_
  obtain rfl := Option.some.inj hf
  exact kr H locs ls 26 dX3_borneByAll_26 hP hS
set_option maxHeartbeats 4000000 in
set_option maxRecDepth 100000 in
theorem c_X3_borneByAll (hj : jP ad) (l : Launch) (N : Nat)  (f : mM) (t : Int64) (r : Int32) (hf : q_X3_borneByAll N f = some r) : Met l yX3_borneByAll wsX3_borneByAll ({ frames := 0, cells := 0, slots := 0, locals := 0 }) (va_Pc ([.ref (ad 23)]) (pre D cy (wP ad cy) (xP ad sk sv) f t)) (va_Qi (fun (r2 : Int32) (u : mM × Int64) => r2 = r ∧ u = (f, t)) (atW D (wP ad cy)) (aP ad)) 0 0 (aP ad) := by
  refine Met.ofW (cc := cX3_borneByAll) (maxL := 3) (ret := (some .int)) (by decide) rfl ?_
  intro p e s m args below meth c s₁ B hml hv
  obtain ⟨rfl, hP, hK, hX0⟩ := hv
  have hl := lv_entry ([.ref (ad 23)]) (n := 3) (Nat.le_of_ble_eq_true rfl)
  rw [lg_entry_eq]
  generalize (lg_sl ([.ref (ad 23)]) ++ List.replicate (3 - (lg_sl ([.ref (ad 23)])).length) Slot.unset).toArray = ls at hl ⊢
  have hlocks := B.notSynchronized
  exact b_X3_borneByAll ⟨B.exec, B.bytes, B.returns, hml, findClass_of_methodNamed B.named, atoms_spec (ws := wsX3_borneByAll) B.pre, hlocks, hK, hX0⟩ hj ⟨Nat.le_refl _, Nat.le_refl _⟩ N  f t r hf (fun H locs ls pc hd hP hS => W.iret B.exec B.bytes B.returns (fun t2 ht hW => ⟨⟨r, (f, t), rfl, ⟨rfl, rfl⟩, by show va_P D vwCl _ t2.heap; rw [ht]; exact hP⟩, hS.F ht⟩) hS.2.2 hd) s.heap [] ls hP va_S.rf hl
def lp_X3_howManyBear_4 (N : Nat) (x1 : Int32) (f : mM) : Nat → Int32 → Int32 → Option (Int32)
  | 0, _, _ => none
  | n + 1, x2, x3 => if 9 ≤ x3 then some x2 else gi x3 9 (if (f 24 (Int32.toNatClampNeg x3)) < x1 then sq (x3 + 1) (fun x3_2 => lp_X3_howManyBear_4 N x1 f n x2 x3_2) else sq (x2 + 1) (fun x2_3 => sq (x3 + 1) (fun x3_4 => lp_X3_howManyBear_4 N x1 f n x2_3 x3_4)))
theorem lp_X3_howManyBear_4_s (N : Nat) (x1 : Int32) (f : mM) (n : Nat) (x2 : Int32) (x3 : Int32) : lp_X3_howManyBear_4 N x1 f (n + 1) x2 x3 = (if 9 ≤ x3 then some x2 else gi x3 9 (if (f 24 (Int32.toNatClampNeg x3)) < x1 then sq (x3 + 1) (fun x3_2 => lp_X3_howManyBear_4 N x1 f n x2 x3_2) else sq (x2 + 1) (fun x2_3 => sq (x3 + 1) (fun x3_4 => lp_X3_howManyBear_4 N x1 f n x2_3 x3_4)))) := rfl
set_option maxHeartbeats 4000000 in
set_option maxRecDepth 100000 in
theorem lp_X3_howManyBear_4_w (C0 : cX p s m args meth c cX3_howManyBear 4 (some .int) RX3 wsX3_howManyBear D cy (xP ad sk sv)) (hj : jP ad) (hR : 0 ≤ R.frames ∧ 0 ≤ R.locals) (N : Nat) (x1 : Int32) (f : mM) (t : Int64) (r2 : Int32) (kx29 : ∀ (H : Heap) (locs : List Loc) (ls : Array Slot), va_P D vwCl (wP ad cy f t) H → va_S (aP ad) s.heap H locs → lv_has ls 4 [(2, .int r2)] → W p l e R s m args below meth c H locs 0 0 Q (F0 m 29 ls [])) : ∀ (n : Nat) (x2 : Int32) (x3 : Int32), lp_X3_howManyBear_4 N x1 f n x2 x3 = some r2 → ∀ (H : Heap) (locs : List Loc) (ls : Array Slot), va_P D vwCl (wP ad cy f t) H → va_S (aP ad) s.heap H locs → lv_has ls 4 [(0, .ref (ad 23)), (1, .int x1), (2, .int x2), (3, .int x3)] → W p l e R s m args below meth c H locs 0 0 Q (F0 m 4 ls []) := by
  obtain ⟨hx, hb, hr, hml, hown, hts, hlocks, hK, hX0⟩ := id C0
  have lk9 := hts (.fieldLink RX3 9 "PlankNine$Now" "bears" "[I") (List.mem_of_getElem? (i := 1) rfl)
  have hiX3 : ∀ w ∈ u_ws RX3 TX3 4, w ∈ wsX3_howManyBear := fun w h => List.mem_cons_of_mem _ (List.mem_append_right _ h)
  intro n
  induction n with
  | zero =>
    intro x2 x3 hf
    exact no_none hf
  | succ n ih =>
    intro x2 x3 hf H locs ls hP hS hl
    have hf := (lp_X3_howManyBear_4_s N x1 f n x2 x3).symm.trans hf
    refine lv_iload_n hx hb dX3_howManyBear_4 rfl (lv_at hl 3 rfl) ?_
    refine lv_bipush (v := 9) hx hb dX3_howManyBear_5 (by decide) ?_
    refine lv_icmp_ge (tgt := 29) hx hb dX3_howManyBear_7 (by decide) (fun c7 => ?_) (fun c7 => ?_)
    · have hf := itT hf c7
      obtain rfl := Option.some.inj hf
      exact kx29 H locs ls hP hS (lv_sub hl [2] rfl)
    · have hf := itF hf c7
      refine lv_aload_n hx hb dX3_howManyBear_10 rfl (lv_at hl 0 rfl) ?_
      refine va_get (D := D) (ci := 3) (v := .ref (ad 24)) (C := RX3) (T := TX3) (N := 4) hx hb hts hiX3 hown hK hP 23 rfl rfl 0 (by decide) lk9 (fun _ h9 => h9) rfl dX3_howManyBear_11 ?_
      refine lv_iload_n hx hb dX3_howManyBear_14 rfl (lv_at hl 3 rfl) ?_
      obtain ⟨hin1, hf⟩ := gi_out hf
      refine va_iald hx hb hK hP 24 1 rfl rfl hin1 dX3_howManyBear_15 ?_
      refine lv_iload_n hx hb dX3_howManyBear_16 rfl (lv_at hl 1 rfl) ?_
      refine lv_icmp_lt (tgt := 23) hx hb dX3_howManyBear_17 (by decide) (fun c17 => ?_) (fun c17 => ?_)
      · have hf := itT hf c17
        obtain ⟨x3_2, ex3_2, hf⟩ := sq_out hf
        refine lv_iinc (v := x3_2) (lv' := [(3, .int x3_2), (0, .ref (ad 23)), (1, .int x1), (2, .int x2)]) hx hb dX3_howManyBear_23 hl (k := 3) rfl (by rw [ex3_2]; rfl) (by decide) rfl (fun ls hl => ?_)
        refine lv_goto (tgt := 4) hx hb dX3_howManyBear_26 (by decide) ?_
        exact ih x2 x3_2 hf H locs ls hP hS (lv_sub hl [1, 2, 3, 0] rfl)
      · have hf := itF hf c17
        obtain ⟨x2_3, ex2_3, hf⟩ := sq_out hf
        refine lv_iinc (v := x2_3) (lv' := [(2, .int x2_3), (0, .ref (ad 23)), (1, .int x1), (3, .int x3)]) hx hb dX3_howManyBear_20 hl (k := 2) rfl (by rw [ex2_3]; rfl) (by decide) rfl (fun ls hl => ?_)
        obtain ⟨x3_4, ex3_4, hf⟩ := sq_out hf
        refine lv_iinc (v := x3_4) (lv' := [(3, .int x3_4), (2, .int x2_3), (0, .ref (ad 23)), (1, .int x1)]) hx hb dX3_howManyBear_23 hl (k := 3) rfl (by rw [ex3_4]; rfl) (by decide) rfl (fun ls hl => ?_)
        refine lv_goto (tgt := 4) hx hb dX3_howManyBear_26 (by decide) ?_
        exact ih x2_3 x3_4 hf H locs ls hP hS (lv_sub hl [2, 3, 1, 0] rfl)
def q_X3_howManyBear (N : Nat) (x1 : Int32) (f : mM) : Option (Int32) := bi (lp_X3_howManyBear_4 N x1 f N 0 0) (fun y5 => some y5)
set_option maxHeartbeats 4000000 in
set_option maxRecDepth 100000 in
theorem b_X3_howManyBear (C0 : cX p s m args meth c cX3_howManyBear 4 (some .int) RX3 wsX3_howManyBear D cy (xP ad sk sv)) (hj : jP ad) (hR : 0 ≤ R.frames ∧ 0 ≤ R.locals) (N : Nat) (x1 : Int32) (f : mM) (t : Int64) (r : Int32) (hf : q_X3_howManyBear N x1 f = some r) (kr : ∀ (H : Heap) (locs : List Loc) (ls : Array Slot) (pc : Nat), decode cX3_howManyBear pc = .ok (.ireturn, 1) → va_P D vwCl (wP ad cy f t) H → va_S (aP ad) s.heap H locs → W p l e R s m args below meth c H locs 0 0 Q (F0 m pc ls [.int r])) (H : Heap) (locs : List Loc) (ls : Array Slot) (hP : va_P D vwCl (wP ad cy f t) H) (hS : va_S (aP ad) s.heap H locs) (hl : lv_has ls 4 [(0, .ref (ad 23)), (1, .int x1)]) : W p l e R s m args below meth c H locs 0 0 Q (F0 m 0 ls []) := by
  obtain ⟨hx, hb, hr, hml, hown, hts, hlocks, hK, hX0⟩ := id C0
  unfold q_X3_howManyBear at hf
  refine lv_iconst (v := 0) hx hb dX3_howManyBear_0 (by decide) ?_
  refine lv_istore_n (lv' := [(2, .int 0), (0, .ref (ad 23)), (1, .int x1)]) hx hb dX3_howManyBear_1 rfl hl (by decide) rfl (fun ls hl => ?_)
  refine lv_iconst (v := 0) hx hb dX3_howManyBear_2 (by decide) ?_
  refine lv_istore_n (lv' := [(3, .int 0), (2, .int 0), (0, .ref (ad 23)), (1, .int x1)]) hx hb dX3_howManyBear_3 rfl hl (by decide) rfl (fun ls hl => ?_)
  obtain ⟨y5, hlp6, hf⟩ := bi_out hf
  refine lp_X3_howManyBear_4_w C0 hj hR N x1 f t y5 ?_ N 0 0 hlp6 H locs ls hP hS (lv_sub hl [2, 3, 1, 0] rfl)
  intro H locs ls hP hS hl
  refine lv_iload_n hx hb dX3_howManyBear_29 rfl (lv_at hl 0 rfl) ?_
  obtain rfl := Option.some.inj hf
  exact kr H locs ls 30 dX3_howManyBear_30 hP hS
set_option maxHeartbeats 4000000 in
set_option maxRecDepth 100000 in
theorem c_X3_howManyBear (hj : jP ad) (l : Launch) (N : Nat) (x1 : Int32) (f : mM) (t : Int64) (r : Int32) (hf : q_X3_howManyBear N x1 f = some r) : Met l yX3_howManyBear wsX3_howManyBear ({ frames := 0, cells := 0, slots := 0, locals := 0 }) (va_Pc ([.ref (ad 23), .int x1]) (pre D cy (wP ad cy) (xP ad sk sv) f t)) (va_Qi (fun (r2 : Int32) (u : mM × Int64) => r2 = r ∧ u = (f, t)) (atW D (wP ad cy)) (aP ad)) 0 0 (aP ad) := by
  refine Met.ofW (cc := cX3_howManyBear) (maxL := 4) (ret := (some .int)) (by decide) rfl ?_
  intro p e s m args below meth c s₁ B hml hv
  obtain ⟨rfl, hP, hK, hX0⟩ := hv
  have hl := lv_entry ([.ref (ad 23), .int x1]) (n := 4) (Nat.le_of_ble_eq_true rfl)
  rw [lg_entry_eq]
  generalize (lg_sl ([.ref (ad 23), .int x1]) ++ List.replicate (4 - (lg_sl ([.ref (ad 23), .int x1])).length) Slot.unset).toArray = ls at hl ⊢
  have hlocks := B.notSynchronized
  exact b_X3_howManyBear ⟨B.exec, B.bytes, B.returns, hml, findClass_of_methodNamed B.named, atoms_spec (ws := wsX3_howManyBear) B.pre, hlocks, hK, hX0⟩ hj ⟨Nat.le_refl _, Nat.le_refl _⟩ N x1 f t r hf (fun H locs ls pc hd hP hS => W.iret B.exec B.bytes B.returns (fun t2 ht hW => ⟨⟨r, (f, t), rfl, ⟨rfl, rfl⟩, by show va_P D vwCl _ t2.heap; rw [ht]; exact hP⟩, hS.F ht⟩) hS.2.2 hd) s.heap [] ls hP va_S.rf hl
def q_X3_notUnder (N : Nat) (f : mM) : Option (Int32) := bi (q_X3_howManyBear N 1 f) (fun y1 => some y1)
set_option maxHeartbeats 4000000 in
set_option maxRecDepth 100000 in
theorem b_X3_notUnder (C0 : cX p s m args meth c cX3_notUnder 1 (some .int) RX3 wsX3_notUnder D cy (xP ad sk sv)) (hj : jP ad) (hR : 1 ≤ R.frames ∧ 23 ≤ R.locals) (N : Nat)  (f : mM) (t : Int64) (r : Int32) (hf : q_X3_notUnder N f = some r) (kr : ∀ (H : Heap) (locs : List Loc) (ls : Array Slot) (pc : Nat), decode cX3_notUnder pc = .ok (.ireturn, 1) → va_P D vwCl (wP ad cy f t) H → va_S (aP ad) s.heap H locs → W p l e R s m args below meth c H locs 0 0 Q (F0 m pc ls [.int r])) (H : Heap) (locs : List Loc) (ls : Array Slot) (hP : va_P D vwCl (wP ad cy f t) H) (hS : va_S (aP ad) s.heap H locs) (hl : lv_has ls 1 [(0, .ref (ad 23))]) : W p l e R s m args below meth c H locs 0 0 Q (F0 m 0 ls []) := by
  obtain ⟨hx, hb, hr, hml, hown, hts, hlocks, hK, hX0⟩ := id C0
  unfold q_X3_notUnder at hf
  refine lv_aload_n hx hb dX3_notUnder_0 rfl (lv_at hl 0 rfl) ?_
  refine lv_iconst (v := 1) hx hb dX3_notUnder_1 (by decide) ?_
  obtain ⟨y1, hq2, hf⟩ := bi_out hf
  refine cw_vi (As := [.int 1]) (rest := []) ⟨hx, hb, hml, hown, hts⟩ xP_S hK hX0 hS hP (c_X3_howManyBear hj l N 1 f t y1 hq2) (cwV 1 hts gX3_notUnder_X3_howManyBear rfl rfl rfl (by decide +kernel) ⟨Nat.le_trans (Nat.le_of_ble_eq_true rfl) hR.1, Nat.le_trans (Nat.le_of_ble_eq_true rfl) hR.2⟩) (va_recv hK hP (ci := 3) (q0 := 23) rfl rfl) rfl hl.1 rfl (Nat.le_of_ble_eq_true rfl) ⟨Nat.zero_le _, Nat.zero_le _⟩ dX3_notUnder_2 (fun H locs hP hS => ?_)
  obtain rfl := Option.some.inj hf
  exact kr H locs ls 5 dX3_notUnder_5 hP hS
set_option maxHeartbeats 4000000 in
set_option maxRecDepth 100000 in
theorem c_X3_notUnder (hj : jP ad) (l : Launch) (N : Nat)  (f : mM) (t : Int64) (r : Int32) (hf : q_X3_notUnder N f = some r) : Met l yX3_notUnder wsX3_notUnder ({ frames := 1, cells := 0, slots := 0, locals := 23 }) (va_Pc ([.ref (ad 23)]) (pre D cy (wP ad cy) (xP ad sk sv) f t)) (va_Qi (fun (r2 : Int32) (u : mM × Int64) => r2 = r ∧ u = (f, t)) (atW D (wP ad cy)) (aP ad)) 0 0 (aP ad) := by
  refine Met.ofW (cc := cX3_notUnder) (maxL := 1) (ret := (some .int)) (by decide) rfl ?_
  intro p e s m args below meth c s₁ B hml hv
  obtain ⟨rfl, hP, hK, hX0⟩ := hv
  have hl := lv_entry ([.ref (ad 23)]) (n := 1) (Nat.le_of_ble_eq_true rfl)
  rw [lg_entry_eq]
  generalize (lg_sl ([.ref (ad 23)]) ++ List.replicate (1 - (lg_sl ([.ref (ad 23)])).length) Slot.unset).toArray = ls at hl ⊢
  have hlocks := B.notSynchronized
  exact b_X3_notUnder ⟨B.exec, B.bytes, B.returns, hml, findClass_of_methodNamed B.named, atoms_spec (ws := wsX3_notUnder) B.pre, hlocks, hK, hX0⟩ hj ⟨Nat.le_refl _, Nat.le_refl _⟩ N  f t r hf (fun H locs ls pc hd hP hS => W.iret B.exec B.bytes B.returns (fun t2 ht hW => ⟨⟨r, (f, t), rfl, ⟨rfl, rfl⟩, by show va_P D vwCl _ t2.heap; rw [ht]; exact hP⟩, hS.F ht⟩) hS.2.2 hd) s.heap [] ls hP va_S.rf hl
def lp_X3_beginsAsTold_2 (N : Nat)  : Nat → Int32 → mM → Option (mM)
  | 0, _, _ => none
  | n + 1, x2, f => if 9 ≤ x2 then some f else sq (fun (v1 : Int32) => gi x2 9 (sq (st2 f 24 (Int32.toNatClampNeg x2) v1) (fun f4 => sq (x2 + 1) (fun x2_5 => lp_X3_beginsAsTold_2 N n x2_5 f4)))) (fun k2 => if (f 3 1) ≤ x2 then k2 0 else gi x2 9 (k2 (f 6 (Int32.toNatClampNeg x2))))
theorem lp_X3_beginsAsTold_2_s (N : Nat)  (n : Nat) (x2 : Int32) (f : mM) : lp_X3_beginsAsTold_2 N (n + 1) x2 f = (if 9 ≤ x2 then some f else sq (fun (v1 : Int32) => gi x2 9 (sq (st2 f 24 (Int32.toNatClampNeg x2) v1) (fun f4 => sq (x2 + 1) (fun x2_5 => lp_X3_beginsAsTold_2 N n x2_5 f4)))) (fun k2 => if (f 3 1) ≤ x2 then k2 0 else gi x2 9 (k2 (f 6 (Int32.toNatClampNeg x2))))) := rfl
set_option maxHeartbeats 4000000 in
set_option maxRecDepth 100000 in
theorem lp_X3_beginsAsTold_2_w (C0 : cX p s m args meth c cX3_beginsAsTold 3 none RX3 wsX3_beginsAsTold D cy (xP ad sk sv)) (hj : jP ad) (hR : 0 ≤ R.frames ∧ 0 ≤ R.locals) (N : Nat)  (t : Int64) (fR : mM) (kx38 : ∀ (H : Heap) (locs : List Loc) (ls : Array Slot), va_P D vwCl (wP ad cy fR t) H → va_S (aP ad) s.heap H locs → lv_has ls 3 [(0, .ref (ad 23))] → W p l e R s m args below meth c H locs 0 0 Q (F0 m 38 ls [])) : ∀ (n : Nat) (x2 : Int32) (f : mM), lp_X3_beginsAsTold_2 N n x2 f = some fR → ∀ (H : Heap) (locs : List Loc) (ls : Array Slot), va_P D vwCl (wP ad cy f t) H → va_S (aP ad) s.heap H locs → lv_has ls 3 [(0, .ref (ad 23)), (1, .ref (ad 3)), (2, .int x2)] → W p l e R s m args below meth c H locs 0 0 Q (F0 m 2 ls []) := by
  obtain ⟨hx, hb, hr, hml, hown, hts, hlocks, hK, hX0⟩ := id C0
  have lk9 := hts (.fieldLink RX3 9 "PlankNine$Now" "bears" "[I") (List.mem_of_getElem? (i := 1) rfl)
  have hiX3 : ∀ w ∈ u_ws RX3 TX3 4, w ∈ wsX3_beginsAsTold := fun w h => List.mem_cons_of_mem _ (List.mem_append_left _ (List.mem_append_right _ h))
  have ln25 := nlF_6 (args := args) hX0
  have hiX2 : ∀ w ∈ u_ws RX2 TX2 12, w ∈ wsX3_beginsAsTold := fun w h => List.mem_cons_of_mem _ (List.mem_append_right _ h)
  have ln30 := nlF_24 (args := args) hX0
  intro n
  induction n with
  | zero =>
    intro x2 f hf
    exact no_none hf
  | succ n ih =>
    intro x2 f hf H locs ls hP hS hl
    have hf := (lp_X3_beginsAsTold_2_s N n x2 f).symm.trans hf
    refine lv_iload_n hx hb dX3_beginsAsTold_2 rfl (lv_at hl 2 rfl) ?_
    refine lv_bipush (v := 9) hx hb dX3_beginsAsTold_3 (by decide) ?_
    refine lv_icmp_ge (tgt := 38) hx hb dX3_beginsAsTold_5 (by decide) (fun c5 => ?_) (fun c5 => ?_)
    · have hf := itT hf c5
      obtain rfl := Option.some.inj hf
      exact kx38 H locs ls hP hS (lv_sub hl [0] rfl)
    · have hf := itF hf c5
      refine lv_aload_n hx hb dX3_beginsAsTold_8 rfl (lv_at hl 0 rfl) ?_
      refine va_get (D := D) (ci := 3) (v := .ref (ad 24)) (C := RX3) (T := TX3) (N := 4) hx hb hts hiX3 hown hK hP 23 rfl rfl 0 (by decide) lk9 (fun _ h9 => h9) rfl dX3_beginsAsTold_9 ?_
      refine lv_iload_n hx hb dX3_beginsAsTold_12 rfl (lv_at hl 2 rfl) ?_
      refine lv_iload_n hx hb dX3_beginsAsTold_13 rfl (lv_at hl 2 rfl) ?_
      refine lv_aload_n hx hb dX3_beginsAsTold_14 rfl (lv_at hl 1 rfl) ?_
      refine va_getN (D := D) (ci := 2) (v := .int (f 3 1)) (C := RX2) (T := TX2) (N := 12) hx hb hts hiX2 hown hK hP 3 rfl rfl 1 (by decide) ln25 (fun _ h9 => h9) rfl dX3_beginsAsTold_15 ?_
      obtain ⟨k2, ek2, hf⟩ := sq_out hf
      have hk2 : ∀ (v1 : Int32), k2 v1 = some fR → ∀ (H : Heap) (locs : List Loc) (ls : Array Slot), va_P D vwCl (wP ad cy f t) H → va_S (aP ad) s.heap H locs → lv_has ls 3 [(0, .ref (ad 23)), (1, .ref (ad 3)), (2, .int x2)] → W p l e R s m args below meth c H locs 0 0 Q (F0 m 31 ls [.int v1, .int x2, .ref (ad 24)]) := by
        intro v1 hf H locs ls hP hS hl
        have hf := sk1 ek2 v1 hf
        obtain ⟨hin3, hf⟩ := gi_out hf
        obtain ⟨f4, ef4, hf⟩ := sq_out hf
        refine va_iast hx hb hK hP (dP hj f t) hS 24 1 rfl rfl hin3 dX3_beginsAsTold_31 (fun H locs hP _ hS => ?_)
        have hP := sP_24 ef4 hP
        obtain ⟨x2_5, ex2_5, hf⟩ := sq_out hf
        refine lv_iinc (v := x2_5) (lv' := [(2, .int x2_5), (0, .ref (ad 23)), (1, .ref (ad 3))]) hx hb dX3_beginsAsTold_32 hl (k := 2) rfl (by rw [ex2_5]; rfl) (by decide) rfl (fun ls hl => ?_)
        refine lv_goto (tgt := 2) hx hb dX3_beginsAsTold_35 (by decide) ?_
        exact ih x2_5 f4 hf H locs ls hP hS (lv_sub hl [1, 2, 0] rfl)
      refine lv_icmp_ge (tgt := 30) hx hb dX3_beginsAsTold_18 (by decide) (fun c18 => ?_) (fun c18 => ?_)
      · have hf := itT hf c18
        refine lv_iconst (v := 0) hx hb dX3_beginsAsTold_30 (by decide) ?_
        exact hk2 0 hf H locs ls hP hS (lv_sub hl [0, 1, 2] rfl)
      · have hf := itF hf c18
        refine lv_aload_n hx hb dX3_beginsAsTold_21 rfl (lv_at hl 1 rfl) ?_
        refine va_getN (D := D) (ci := 2) (v := .ref (ad 6)) (C := RX2) (T := TX2) (N := 12) hx hb hts hiX2 hown hK hP 3 rfl rfl 6 (by decide) ln30 (fun _ h9 => h9) rfl dX3_beginsAsTold_22 ?_
        refine lv_iload_n hx hb dX3_beginsAsTold_25 rfl (lv_at hl 2 rfl) ?_
        obtain ⟨hin6, hf⟩ := gi_out hf
        refine va_iald hx hb hK hP 6 1 rfl rfl hin6 dX3_beginsAsTold_26 ?_
        refine lv_goto (tgt := 31) hx hb dX3_beginsAsTold_27 (by decide) ?_
        exact hk2 _ hf H locs ls hP hS (lv_sub hl [0, 1, 2] rfl)
def q_X3_beginsAsTold (N : Nat) (f : mM) : Option (mM) := bi (lp_X3_beginsAsTold_2 N N 0 f) (fun f7 => sq (st2 f7 23 3 0) (fun f9 => some f9))
set_option maxHeartbeats 4000000 in
set_option maxRecDepth 100000 in
theorem b_X3_beginsAsTold (C0 : cX p s m args meth c cX3_beginsAsTold 3 none RX3 wsX3_beginsAsTold D cy (xP ad sk sv)) (hj : jP ad) (hR : 0 ≤ R.frames ∧ 0 ≤ R.locals) (N : Nat)  (f : mM) (t : Int64) (fR : mM) (hf : q_X3_beginsAsTold N f = some fR) (kr : ∀ (H : Heap) (locs : List Loc) (ls : Array Slot) (pc : Nat), decode cX3_beginsAsTold pc = .ok (.return_, 1) → va_P D vwCl (wP ad cy fR t) H → va_S (aP ad) s.heap H locs → W p l e R s m args below meth c H locs 0 0 Q (F0 m pc ls [])) (H : Heap) (locs : List Loc) (ls : Array Slot) (hP : va_P D vwCl (wP ad cy f t) H) (hS : va_S (aP ad) s.heap H locs) (hl : lv_has ls 3 [(0, .ref (ad 23)), (1, .ref (ad 3))]) : W p l e R s m args below meth c H locs 0 0 Q (F0 m 0 ls []) := by
  obtain ⟨hx, hb, hr, hml, hown, hts, hlocks, hK, hX0⟩ := id C0
  have lk21 := hts (.fieldLink RX3 21 "PlankNine$Now" "known" "I") (List.mem_of_getElem? (i := 2) rfl)
  have hiX3 : ∀ w ∈ u_ws RX3 TX3 4, w ∈ wsX3_beginsAsTold := fun w h => List.mem_cons_of_mem _ (List.mem_append_left _ (List.mem_append_right _ h))
  unfold q_X3_beginsAsTold at hf
  refine lv_iconst (v := 0) hx hb dX3_beginsAsTold_0 (by decide) ?_
  refine lv_istore_n (lv' := [(2, .int 0), (0, .ref (ad 23)), (1, .ref (ad 3))]) hx hb dX3_beginsAsTold_1 rfl hl (by decide) rfl (fun ls hl => ?_)
  obtain ⟨f7, hlp8, hf⟩ := bi_out hf
  refine lp_X3_beginsAsTold_2_w C0 hj hR N t f7 ?_ N 0 f hlp8 H locs ls hP hS (lv_sub hl [1, 2, 0] rfl)
  intro H locs ls hP hS hl
  refine lv_aload_n hx hb dX3_beginsAsTold_38 rfl (lv_at hl 0 rfl) ?_
  refine lv_iconst (v := 0) hx hb dX3_beginsAsTold_39 (by decide) ?_
  obtain ⟨f9, ef9, hf⟩ := sq_out hf
  refine va_put (D := D) (ci := 3) (v := .int 0) (ty := .int) (C := RX3) (T := TX3) (N := 4) hx hb hts hiX3 tyX3 tyX3_ok nmX3 hown hK hP (dP hj f7 t) hS 23 rfl rfl 3 (by decide) lk21 (fun _ h9 => h9) rfl (by decide +kernel) rfl rfl (Nat.le_of_ble_eq_true rfl) dX3_beginsAsTold_40 (fun H locs hP _ hS => ?_)
  have hP := sP_23_3 ef9 hP
  obtain rfl := Option.some.inj hf
  exact kr H locs ls 43 dX3_beginsAsTold_43 hP hS
set_option maxHeartbeats 4000000 in
set_option maxRecDepth 100000 in
theorem c_X3_beginsAsTold (hj : jP ad) (l : Launch) (N : Nat)  (f : mM) (t : Int64) (fR : mM) (hf : q_X3_beginsAsTold N f = some fR) : Met l yX3_beginsAsTold wsX3_beginsAsTold ({ frames := 0, cells := 0, slots := 0, locals := 0 }) (va_Pc ([.ref (ad 23), .ref (ad 3)]) (pre D cy (wP ad cy) (xP ad sk sv) f t)) (va_Qv (fun (u : mM × Int64) => u = (fR, t)) (atW D (wP ad cy)) (aP ad)) 0 0 (aP ad) := by
  refine Met.ofW (cc := cX3_beginsAsTold) (maxL := 3) (ret := none) (by decide) rfl ?_
  intro p e s m args below meth c s₁ B hml hv
  obtain ⟨rfl, hP, hK, hX0⟩ := hv
  have hl := lv_entry ([.ref (ad 23), .ref (ad 3)]) (n := 3) (Nat.le_of_ble_eq_true rfl)
  rw [lg_entry_eq]
  generalize (lg_sl ([.ref (ad 23), .ref (ad 3)]) ++ List.replicate (3 - (lg_sl ([.ref (ad 23), .ref (ad 3)])).length) Slot.unset).toArray = ls at hl ⊢
  have hlocks := B.notSynchronized
  exact b_X3_beginsAsTold ⟨B.exec, B.bytes, B.returns, hml, findClass_of_methodNamed B.named, atoms_spec (ws := wsX3_beginsAsTold) B.pre, hlocks, hK, hX0⟩ hj ⟨Nat.le_refl _, Nat.le_refl _⟩ N  f t fR hf (fun H locs ls pc hd hP hS => W.vret B.exec B.bytes B.returns (fun t2 ht hW => ⟨⟨(fR, t), rfl, rfl, by show va_P D vwCl _ t2.heap; rw [ht]; exact hP⟩, hS.F ht⟩) hS.2.2 hd) s.heap [] ls hP va_S.rf hl
def q_X3_becomes_23_28 (f : mM) : Option (mM) := sq (cp2 f 29 24 9) (fun f1 => sq (cp2 f1 30 25 20) (fun f2 => sq (cp2 f2 31 26 20) (fun f3 => sq (st2 f3 23 3 (f3 28 3)) (fun f4 => some f4))))
set_option maxHeartbeats 4000000 in
set_option maxRecDepth 100000 in
theorem b_X3_becomes_23_28 (C0 : cX p s m args meth c cX3_becomes 2 none RX3 wsX3_becomes D cy (xP ad sk sv)) (hj : jP ad) (hR : 1 ≤ R.frames ∧ 49 ≤ R.locals)  (f : mM) (t : Int64) (fR : mM) (hf : q_X3_becomes_23_28 f = some fR) (kr : ∀ (H : Heap) (locs : List Loc) (ls : Array Slot) (pc : Nat), decode cX3_becomes pc = .ok (.return_, 1) → va_P D vwCl (wP ad cy fR t) H → va_S (aP ad) s.heap H locs → W p l e R s m args below meth c H locs 0 0 Q (F0 m pc ls [])) (H : Heap) (locs : List Loc) (ls : Array Slot) (hP : va_P D vwCl (wP ad cy f t) H) (hS : va_S (aP ad) s.heap H locs) (hl : lv_has ls 2 [(0, .ref (ad 23)), (1, .ref (ad 28))]) : W p l e R s m args below meth c H locs 0 0 Q (F0 m 0 ls []) := by
  obtain ⟨hx, hb, hr, hml, hown, hts, hlocks, hK, hX0⟩ := id C0
  have lk9 := hts (.fieldLink RX3 9 "PlankNine$Now" "bears" "[I") (List.mem_of_getElem? (i := 1) rfl)
  have hiX3 : ∀ w ∈ u_ws RX3 TX3 4, w ∈ wsX3_becomes := fun w h => List.mem_cons_of_mem _ (List.mem_append_right _ h)
  have lk15 := hts (.fieldLink RX3 15 "PlankNine$Now" "wentPlank" "[I") (List.mem_of_getElem? (i := 6) rfl)
  have lk18 := hts (.fieldLink RX3 18 "PlankNine$Now" "wentWith" "[I") (List.mem_of_getElem? (i := 7) rfl)
  have lk21 := hts (.fieldLink RX3 21 "PlankNine$Now" "known" "I") (List.mem_of_getElem? (i := 8) rfl)
  unfold q_X3_becomes_23_28 at hf
  refine lv_aload_n hx hb dX3_becomes_0 rfl (lv_at hl 1 rfl) ?_
  refine va_get (D := D) (ci := 3) (v := .ref (ad 29)) (C := RX3) (T := TX3) (N := 4) hx hb hts hiX3 hown hK hP 28 rfl rfl 0 (by decide) lk9 (fun _ h9 => h9) rfl dX3_becomes_1 ?_
  refine lv_iconst (v := 0) hx hb dX3_becomes_4 (by decide) ?_
  refine lv_aload_n hx hb dX3_becomes_5 rfl (lv_at hl 0 rfl) ?_
  refine va_get (D := D) (ci := 3) (v := .ref (ad 24)) (C := RX3) (T := TX3) (N := 4) hx hb hts hiX3 hown hK hP 23 rfl rfl 0 (by decide) lk9 (fun _ h9 => h9) rfl dX3_becomes_6 ?_
  refine lv_iconst (v := 0) hx hb dX3_becomes_9 (by decide) ?_
  refine lv_bipush (v := 9) hx hb dX3_becomes_10 (by decide) ?_
  obtain ⟨f1, ef1, hf⟩ := sq_out hf
  refine va_copyi hx hb (by rw [hml]; exact hl.1.symm) hown (hts (.methodLink RX3 33 arraycopyName) (by decide +kernel)) (hts (.native arraycopyName) (by decide +kernel)) (hts (.static arraycopyName) (by decide +kernel)) (hts (.initialized "java/lang/System") (by decide +kernel)) hK hP (dP hj f t) hS 29 24 1 1 rfl rfl rfl rfl rfl (by decide) (by decide) (by decide) (by decide) (by decide) (fun _ _ => rfl) (Nat.le_trans (by decide) hR.1) (Nat.le_trans (Nat.le_of_ble_eq_true rfl) hR.2) dX3_becomes_12 (fun H locs hP _ hS => ?_)
  have hP := sP_24 ef1 hP
  refine lv_aload_n hx hb dX3_becomes_15 rfl (lv_at hl 1 rfl) ?_
  refine va_get (D := D) (ci := 3) (v := .ref (ad 30)) (C := RX3) (T := TX3) (N := 4) hx hb hts hiX3 hown hK hP 28 rfl rfl 1 (by decide) lk15 (fun _ h9 => h9) rfl dX3_becomes_16 ?_
  refine lv_iconst (v := 0) hx hb dX3_becomes_19 (by decide) ?_
  refine lv_aload_n hx hb dX3_becomes_20 rfl (lv_at hl 0 rfl) ?_
  refine va_get (D := D) (ci := 3) (v := .ref (ad 25)) (C := RX3) (T := TX3) (N := 4) hx hb hts hiX3 hown hK hP 23 rfl rfl 1 (by decide) lk15 (fun _ h9 => h9) rfl dX3_becomes_21 ?_
  refine lv_iconst (v := 0) hx hb dX3_becomes_24 (by decide) ?_
  refine lv_bipush (v := 20) hx hb dX3_becomes_25 (by decide) ?_
  obtain ⟨f2, ef2, hf⟩ := sq_out hf
  refine va_copyi hx hb (by rw [hml]; exact hl.1.symm) hown (hts (.methodLink RX3 33 arraycopyName) (by decide +kernel)) (hts (.native arraycopyName) (by decide +kernel)) (hts (.static arraycopyName) (by decide +kernel)) (hts (.initialized "java/lang/System") (by decide +kernel)) hK hP (dP hj f1 t) hS 30 25 1 1 rfl rfl rfl rfl rfl (by decide) (by decide) (by decide) (by decide) (by decide) (fun _ _ => rfl) (Nat.le_trans (by decide) hR.1) (Nat.le_trans (Nat.le_of_ble_eq_true rfl) hR.2) dX3_becomes_27 (fun H locs hP _ hS => ?_)
  have hP := sP_25 ef2 hP
  refine lv_aload_n hx hb dX3_becomes_30 rfl (lv_at hl 1 rfl) ?_
  refine va_get (D := D) (ci := 3) (v := .ref (ad 31)) (C := RX3) (T := TX3) (N := 4) hx hb hts hiX3 hown hK hP 28 rfl rfl 2 (by decide) lk18 (fun _ h9 => h9) rfl dX3_becomes_31 ?_
  refine lv_iconst (v := 0) hx hb dX3_becomes_34 (by decide) ?_
  refine lv_aload_n hx hb dX3_becomes_35 rfl (lv_at hl 0 rfl) ?_
  refine va_get (D := D) (ci := 3) (v := .ref (ad 26)) (C := RX3) (T := TX3) (N := 4) hx hb hts hiX3 hown hK hP 23 rfl rfl 2 (by decide) lk18 (fun _ h9 => h9) rfl dX3_becomes_36 ?_
  refine lv_iconst (v := 0) hx hb dX3_becomes_39 (by decide) ?_
  refine lv_bipush (v := 20) hx hb dX3_becomes_40 (by decide) ?_
  obtain ⟨f3, ef3, hf⟩ := sq_out hf
  refine va_copyi hx hb (by rw [hml]; exact hl.1.symm) hown (hts (.methodLink RX3 33 arraycopyName) (by decide +kernel)) (hts (.native arraycopyName) (by decide +kernel)) (hts (.static arraycopyName) (by decide +kernel)) (hts (.initialized "java/lang/System") (by decide +kernel)) hK hP (dP hj f2 t) hS 31 26 1 1 rfl rfl rfl rfl rfl (by decide) (by decide) (by decide) (by decide) (by decide) (fun _ _ => rfl) (Nat.le_trans (by decide) hR.1) (Nat.le_trans (Nat.le_of_ble_eq_true rfl) hR.2) dX3_becomes_42 (fun H locs hP _ hS => ?_)
  have hP := sP_26 ef3 hP
  refine lv_aload_n hx hb dX3_becomes_45 rfl (lv_at hl 0 rfl) ?_
  refine lv_aload_n hx hb dX3_becomes_46 rfl (lv_at hl 1 rfl) ?_
  refine va_get (D := D) (ci := 3) (v := .int (f3 28 3)) (C := RX3) (T := TX3) (N := 4) hx hb hts hiX3 hown hK hP 28 rfl rfl 3 (by decide) lk21 (fun _ h9 => h9) rfl dX3_becomes_47 ?_
  obtain ⟨f4, ef4, hf⟩ := sq_out hf
  refine va_put (D := D) (ci := 3) (v := .int (f3 28 3)) (ty := .int) (C := RX3) (T := TX3) (N := 4) hx hb hts hiX3 tyX3 tyX3_ok nmX3 hown hK hP (dP hj f3 t) hS 23 rfl rfl 3 (by decide) lk21 (fun _ h9 => h9) rfl (by decide +kernel) rfl rfl (Nat.le_of_ble_eq_true rfl) dX3_becomes_50 (fun H locs hP _ hS => ?_)
  have hP := sP_23_3 ef4 hP
  obtain rfl := Option.some.inj hf
  exact kr H locs ls 53 dX3_becomes_53 hP hS
set_option maxHeartbeats 4000000 in
set_option maxRecDepth 100000 in
theorem c_X3_becomes_23_28 (hj : jP ad) (l : Launch)  (f : mM) (t : Int64) (fR : mM) (hf : q_X3_becomes_23_28 f = some fR) : Met l yX3_becomes wsX3_becomes ({ frames := 1, cells := 0, slots := 0, locals := 49 }) (va_Pc ([.ref (ad 23), .ref (ad 28)]) (pre D cy (wP ad cy) (xP ad sk sv) f t)) (va_Qv (fun (u : mM × Int64) => u = (fR, t)) (atW D (wP ad cy)) (aP ad)) 0 0 (aP ad) := by
  refine Met.ofW (cc := cX3_becomes) (maxL := 2) (ret := none) (by decide) rfl ?_
  intro p e s m args below meth c s₁ B hml hv
  obtain ⟨rfl, hP, hK, hX0⟩ := hv
  have hl := lv_entry ([.ref (ad 23), .ref (ad 28)]) (n := 2) (Nat.le_of_ble_eq_true rfl)
  rw [lg_entry_eq]
  generalize (lg_sl ([.ref (ad 23), .ref (ad 28)]) ++ List.replicate (2 - (lg_sl ([.ref (ad 23), .ref (ad 28)])).length) Slot.unset).toArray = ls at hl ⊢
  have hlocks := B.notSynchronized
  exact b_X3_becomes_23_28 ⟨B.exec, B.bytes, B.returns, hml, findClass_of_methodNamed B.named, atoms_spec (ws := wsX3_becomes) B.pre, hlocks, hK, hX0⟩ hj ⟨Nat.le_refl _, Nat.le_refl _⟩  f t fR hf (fun H locs ls pc hd hP hS => W.vret B.exec B.bytes B.returns (fun t2 ht hW => ⟨⟨(fR, t), rfl, rfl, by show va_P D vwCl _ t2.heap; rw [ht]; exact hP⟩, hS.F ht⟩) hS.2.2 hd) s.heap [] ls hP va_S.rf hl
def q_X3_becomes_23_32 (f : mM) : Option (mM) := sq (cp2 f 33 24 9) (fun f1 => sq (cp2 f1 34 25 20) (fun f2 => sq (cp2 f2 35 26 20) (fun f3 => sq (st2 f3 23 3 (f3 32 3)) (fun f4 => some f4))))
set_option maxHeartbeats 4000000 in
set_option maxRecDepth 100000 in
theorem b_X3_becomes_23_32 (C0 : cX p s m args meth c cX3_becomes 2 none RX3 wsX3_becomes D cy (xP ad sk sv)) (hj : jP ad) (hR : 1 ≤ R.frames ∧ 49 ≤ R.locals)  (f : mM) (t : Int64) (fR : mM) (hf : q_X3_becomes_23_32 f = some fR) (kr : ∀ (H : Heap) (locs : List Loc) (ls : Array Slot) (pc : Nat), decode cX3_becomes pc = .ok (.return_, 1) → va_P D vwCl (wP ad cy fR t) H → va_S (aP ad) s.heap H locs → W p l e R s m args below meth c H locs 0 0 Q (F0 m pc ls [])) (H : Heap) (locs : List Loc) (ls : Array Slot) (hP : va_P D vwCl (wP ad cy f t) H) (hS : va_S (aP ad) s.heap H locs) (hl : lv_has ls 2 [(0, .ref (ad 23)), (1, .ref (ad 32))]) : W p l e R s m args below meth c H locs 0 0 Q (F0 m 0 ls []) := by
  obtain ⟨hx, hb, hr, hml, hown, hts, hlocks, hK, hX0⟩ := id C0
  have lk9 := hts (.fieldLink RX3 9 "PlankNine$Now" "bears" "[I") (List.mem_of_getElem? (i := 1) rfl)
  have hiX3 : ∀ w ∈ u_ws RX3 TX3 4, w ∈ wsX3_becomes := fun w h => List.mem_cons_of_mem _ (List.mem_append_right _ h)
  have lk15 := hts (.fieldLink RX3 15 "PlankNine$Now" "wentPlank" "[I") (List.mem_of_getElem? (i := 6) rfl)
  have lk18 := hts (.fieldLink RX3 18 "PlankNine$Now" "wentWith" "[I") (List.mem_of_getElem? (i := 7) rfl)
  have lk21 := hts (.fieldLink RX3 21 "PlankNine$Now" "known" "I") (List.mem_of_getElem? (i := 8) rfl)
  unfold q_X3_becomes_23_32 at hf
  refine lv_aload_n hx hb dX3_becomes_0 rfl (lv_at hl 1 rfl) ?_
  refine va_get (D := D) (ci := 3) (v := .ref (ad 33)) (C := RX3) (T := TX3) (N := 4) hx hb hts hiX3 hown hK hP 32 rfl rfl 0 (by decide) lk9 (fun _ h9 => h9) rfl dX3_becomes_1 ?_
  refine lv_iconst (v := 0) hx hb dX3_becomes_4 (by decide) ?_
  refine lv_aload_n hx hb dX3_becomes_5 rfl (lv_at hl 0 rfl) ?_
  refine va_get (D := D) (ci := 3) (v := .ref (ad 24)) (C := RX3) (T := TX3) (N := 4) hx hb hts hiX3 hown hK hP 23 rfl rfl 0 (by decide) lk9 (fun _ h9 => h9) rfl dX3_becomes_6 ?_
  refine lv_iconst (v := 0) hx hb dX3_becomes_9 (by decide) ?_
  refine lv_bipush (v := 9) hx hb dX3_becomes_10 (by decide) ?_
  obtain ⟨f1, ef1, hf⟩ := sq_out hf
  refine va_copyi hx hb (by rw [hml]; exact hl.1.symm) hown (hts (.methodLink RX3 33 arraycopyName) (by decide +kernel)) (hts (.native arraycopyName) (by decide +kernel)) (hts (.static arraycopyName) (by decide +kernel)) (hts (.initialized "java/lang/System") (by decide +kernel)) hK hP (dP hj f t) hS 33 24 1 1 rfl rfl rfl rfl rfl (by decide) (by decide) (by decide) (by decide) (by decide) (fun _ _ => rfl) (Nat.le_trans (by decide) hR.1) (Nat.le_trans (Nat.le_of_ble_eq_true rfl) hR.2) dX3_becomes_12 (fun H locs hP _ hS => ?_)
  have hP := sP_24 ef1 hP
  refine lv_aload_n hx hb dX3_becomes_15 rfl (lv_at hl 1 rfl) ?_
  refine va_get (D := D) (ci := 3) (v := .ref (ad 34)) (C := RX3) (T := TX3) (N := 4) hx hb hts hiX3 hown hK hP 32 rfl rfl 1 (by decide) lk15 (fun _ h9 => h9) rfl dX3_becomes_16 ?_
  refine lv_iconst (v := 0) hx hb dX3_becomes_19 (by decide) ?_
  refine lv_aload_n hx hb dX3_becomes_20 rfl (lv_at hl 0 rfl) ?_
  refine va_get (D := D) (ci := 3) (v := .ref (ad 25)) (C := RX3) (T := TX3) (N := 4) hx hb hts hiX3 hown hK hP 23 rfl rfl 1 (by decide) lk15 (fun _ h9 => h9) rfl dX3_becomes_21 ?_
  refine lv_iconst (v := 0) hx hb dX3_becomes_24 (by decide) ?_
  refine lv_bipush (v := 20) hx hb dX3_becomes_25 (by decide) ?_
  obtain ⟨f2, ef2, hf⟩ := sq_out hf
  refine va_copyi hx hb (by rw [hml]; exact hl.1.symm) hown (hts (.methodLink RX3 33 arraycopyName) (by decide +kernel)) (hts (.native arraycopyName) (by decide +kernel)) (hts (.static arraycopyName) (by decide +kernel)) (hts (.initialized "java/lang/System") (by decide +kernel)) hK hP (dP hj f1 t) hS 34 25 1 1 rfl rfl rfl rfl rfl (by decide) (by decide) (by decide) (by decide) (by decide) (fun _ _ => rfl) (Nat.le_trans (by decide) hR.1) (Nat.le_trans (Nat.le_of_ble_eq_true rfl) hR.2) dX3_becomes_27 (fun H locs hP _ hS => ?_)
  have hP := sP_25 ef2 hP
  refine lv_aload_n hx hb dX3_becomes_30 rfl (lv_at hl 1 rfl) ?_
  refine va_get (D := D) (ci := 3) (v := .ref (ad 35)) (C := RX3) (T := TX3) (N := 4) hx hb hts hiX3 hown hK hP 32 rfl rfl 2 (by decide) lk18 (fun _ h9 => h9) rfl dX3_becomes_31 ?_
  refine lv_iconst (v := 0) hx hb dX3_becomes_34 (by decide) ?_
  refine lv_aload_n hx hb dX3_becomes_35 rfl (lv_at hl 0 rfl) ?_
  refine va_get (D := D) (ci := 3) (v := .ref (ad 26)) (C := RX3) (T := TX3) (N := 4) hx hb hts hiX3 hown hK hP 23 rfl rfl 2 (by decide) lk18 (fun _ h9 => h9) rfl dX3_becomes_36 ?_
  refine lv_iconst (v := 0) hx hb dX3_becomes_39 (by decide) ?_
  refine lv_bipush (v := 20) hx hb dX3_becomes_40 (by decide) ?_
  obtain ⟨f3, ef3, hf⟩ := sq_out hf
  refine va_copyi hx hb (by rw [hml]; exact hl.1.symm) hown (hts (.methodLink RX3 33 arraycopyName) (by decide +kernel)) (hts (.native arraycopyName) (by decide +kernel)) (hts (.static arraycopyName) (by decide +kernel)) (hts (.initialized "java/lang/System") (by decide +kernel)) hK hP (dP hj f2 t) hS 35 26 1 1 rfl rfl rfl rfl rfl (by decide) (by decide) (by decide) (by decide) (by decide) (fun _ _ => rfl) (Nat.le_trans (by decide) hR.1) (Nat.le_trans (Nat.le_of_ble_eq_true rfl) hR.2) dX3_becomes_42 (fun H locs hP _ hS => ?_)
  have hP := sP_26 ef3 hP
  refine lv_aload_n hx hb dX3_becomes_45 rfl (lv_at hl 0 rfl) ?_
  refine lv_aload_n hx hb dX3_becomes_46 rfl (lv_at hl 1 rfl) ?_
  refine va_get (D := D) (ci := 3) (v := .int (f3 32 3)) (C := RX3) (T := TX3) (N := 4) hx hb hts hiX3 hown hK hP 32 rfl rfl 3 (by decide) lk21 (fun _ h9 => h9) rfl dX3_becomes_47 ?_
  obtain ⟨f4, ef4, hf⟩ := sq_out hf
  refine va_put (D := D) (ci := 3) (v := .int (f3 32 3)) (ty := .int) (C := RX3) (T := TX3) (N := 4) hx hb hts hiX3 tyX3 tyX3_ok nmX3 hown hK hP (dP hj f3 t) hS 23 rfl rfl 3 (by decide) lk21 (fun _ h9 => h9) rfl (by decide +kernel) rfl rfl (Nat.le_of_ble_eq_true rfl) dX3_becomes_50 (fun H locs hP _ hS => ?_)
  have hP := sP_23_3 ef4 hP
  obtain rfl := Option.some.inj hf
  exact kr H locs ls 53 dX3_becomes_53 hP hS
set_option maxHeartbeats 4000000 in
set_option maxRecDepth 100000 in
theorem c_X3_becomes_23_32 (hj : jP ad) (l : Launch)  (f : mM) (t : Int64) (fR : mM) (hf : q_X3_becomes_23_32 f = some fR) : Met l yX3_becomes wsX3_becomes ({ frames := 1, cells := 0, slots := 0, locals := 49 }) (va_Pc ([.ref (ad 23), .ref (ad 32)]) (pre D cy (wP ad cy) (xP ad sk sv) f t)) (va_Qv (fun (u : mM × Int64) => u = (fR, t)) (atW D (wP ad cy)) (aP ad)) 0 0 (aP ad) := by
  refine Met.ofW (cc := cX3_becomes) (maxL := 2) (ret := none) (by decide) rfl ?_
  intro p e s m args below meth c s₁ B hml hv
  obtain ⟨rfl, hP, hK, hX0⟩ := hv
  have hl := lv_entry ([.ref (ad 23), .ref (ad 32)]) (n := 2) (Nat.le_of_ble_eq_true rfl)
  rw [lg_entry_eq]
  generalize (lg_sl ([.ref (ad 23), .ref (ad 32)]) ++ List.replicate (2 - (lg_sl ([.ref (ad 23), .ref (ad 32)])).length) Slot.unset).toArray = ls at hl ⊢
  have hlocks := B.notSynchronized
  exact b_X3_becomes_23_32 ⟨B.exec, B.bytes, B.returns, hml, findClass_of_methodNamed B.named, atoms_spec (ws := wsX3_becomes) B.pre, hlocks, hK, hX0⟩ hj ⟨Nat.le_refl _, Nat.le_refl _⟩  f t fR hf (fun H locs ls pc hd hP hS => W.vret B.exec B.bytes B.returns (fun t2 ht hW => ⟨⟨(fR, t), rfl, rfl, by show va_P D vwCl _ t2.heap; rw [ht]; exact hP⟩, hS.F ht⟩) hS.2.2 hd) s.heap [] ls hP va_S.rf hl
def q_X3_becomes_28_23 (f : mM) : Option (mM) := sq (cp2 f 24 29 9) (fun f1 => sq (cp2 f1 25 30 20) (fun f2 => sq (cp2 f2 26 31 20) (fun f3 => sq (st2 f3 28 3 (f3 23 3)) (fun f4 => some f4))))
set_option maxHeartbeats 4000000 in
set_option maxRecDepth 100000 in
theorem b_X3_becomes_28_23 (C0 : cX p s m args meth c cX3_becomes 2 none RX3 wsX3_becomes D cy (xP ad sk sv)) (hj : jP ad) (hR : 1 ≤ R.frames ∧ 49 ≤ R.locals)  (f : mM) (t : Int64) (fR : mM) (hf : q_X3_becomes_28_23 f = some fR) (kr : ∀ (H : Heap) (locs : List Loc) (ls : Array Slot) (pc : Nat), decode cX3_becomes pc = .ok (.return_, 1) → va_P D vwCl (wP ad cy fR t) H → va_S (aP ad) s.heap H locs → W p l e R s m args below meth c H locs 0 0 Q (F0 m pc ls [])) (H : Heap) (locs : List Loc) (ls : Array Slot) (hP : va_P D vwCl (wP ad cy f t) H) (hS : va_S (aP ad) s.heap H locs) (hl : lv_has ls 2 [(0, .ref (ad 28)), (1, .ref (ad 23))]) : W p l e R s m args below meth c H locs 0 0 Q (F0 m 0 ls []) := by
  obtain ⟨hx, hb, hr, hml, hown, hts, hlocks, hK, hX0⟩ := id C0
  have lk9 := hts (.fieldLink RX3 9 "PlankNine$Now" "bears" "[I") (List.mem_of_getElem? (i := 1) rfl)
  have hiX3 : ∀ w ∈ u_ws RX3 TX3 4, w ∈ wsX3_becomes := fun w h => List.mem_cons_of_mem _ (List.mem_append_right _ h)
  have lk15 := hts (.fieldLink RX3 15 "PlankNine$Now" "wentPlank" "[I") (List.mem_of_getElem? (i := 6) rfl)
  have lk18 := hts (.fieldLink RX3 18 "PlankNine$Now" "wentWith" "[I") (List.mem_of_getElem? (i := 7) rfl)
  have lk21 := hts (.fieldLink RX3 21 "PlankNine$Now" "known" "I") (List.mem_of_getElem? (i := 8) rfl)
  unfold q_X3_becomes_28_23 at hf
  refine lv_aload_n hx hb dX3_becomes_0 rfl (lv_at hl 1 rfl) ?_
  refine va_get (D := D) (ci := 3) (v := .ref (ad 24)) (C := RX3) (T := TX3) (N := 4) hx hb hts hiX3 hown hK hP 23 rfl rfl 0 (by decide) lk9 (fun _ h9 => h9) rfl dX3_becomes_1 ?_
  refine lv_iconst (v := 0) hx hb dX3_becomes_4 (by decide) ?_
  refine lv_aload_n hx hb dX3_becomes_5 rfl (lv_at hl 0 rfl) ?_
  refine va_get (D := D) (ci := 3) (v := .ref (ad 29)) (C := RX3) (T := TX3) (N := 4) hx hb hts hiX3 hown hK hP 28 rfl rfl 0 (by decide) lk9 (fun _ h9 => h9) rfl dX3_becomes_6 ?_
  refine lv_iconst (v := 0) hx hb dX3_becomes_9 (by decide) ?_
  refine lv_bipush (v := 9) hx hb dX3_becomes_10 (by decide) ?_
  obtain ⟨f1, ef1, hf⟩ := sq_out hf
  refine va_copyi hx hb (by rw [hml]; exact hl.1.symm) hown (hts (.methodLink RX3 33 arraycopyName) (by decide +kernel)) (hts (.native arraycopyName) (by decide +kernel)) (hts (.static arraycopyName) (by decide +kernel)) (hts (.initialized "java/lang/System") (by decide +kernel)) hK hP (dP hj f t) hS 24 29 1 1 rfl rfl rfl rfl rfl (by decide) (by decide) (by decide) (by decide) (by decide) (fun _ _ => rfl) (Nat.le_trans (by decide) hR.1) (Nat.le_trans (Nat.le_of_ble_eq_true rfl) hR.2) dX3_becomes_12 (fun H locs hP _ hS => ?_)
  have hP := sP_29 ef1 hP
  refine lv_aload_n hx hb dX3_becomes_15 rfl (lv_at hl 1 rfl) ?_
  refine va_get (D := D) (ci := 3) (v := .ref (ad 25)) (C := RX3) (T := TX3) (N := 4) hx hb hts hiX3 hown hK hP 23 rfl rfl 1 (by decide) lk15 (fun _ h9 => h9) rfl dX3_becomes_16 ?_
  refine lv_iconst (v := 0) hx hb dX3_becomes_19 (by decide) ?_
  refine lv_aload_n hx hb dX3_becomes_20 rfl (lv_at hl 0 rfl) ?_
  refine va_get (D := D) (ci := 3) (v := .ref (ad 30)) (C := RX3) (T := TX3) (N := 4) hx hb hts hiX3 hown hK hP 28 rfl rfl 1 (by decide) lk15 (fun _ h9 => h9) rfl dX3_becomes_21 ?_
  refine lv_iconst (v := 0) hx hb dX3_becomes_24 (by decide) ?_
  refine lv_bipush (v := 20) hx hb dX3_becomes_25 (by decide) ?_
  obtain ⟨f2, ef2, hf⟩ := sq_out hf
  refine va_copyi hx hb (by rw [hml]; exact hl.1.symm) hown (hts (.methodLink RX3 33 arraycopyName) (by decide +kernel)) (hts (.native arraycopyName) (by decide +kernel)) (hts (.static arraycopyName) (by decide +kernel)) (hts (.initialized "java/lang/System") (by decide +kernel)) hK hP (dP hj f1 t) hS 25 30 1 1 rfl rfl rfl rfl rfl (by decide) (by decide) (by decide) (by decide) (by decide) (fun _ _ => rfl) (Nat.le_trans (by decide) hR.1) (Nat.le_trans (Nat.le_of_ble_eq_true rfl) hR.2) dX3_becomes_27 (fun H locs hP _ hS => ?_)
  have hP := sP_30 ef2 hP
  refine lv_aload_n hx hb dX3_becomes_30 rfl (lv_at hl 1 rfl) ?_
  refine va_get (D := D) (ci := 3) (v := .ref (ad 26)) (C := RX3) (T := TX3) (N := 4) hx hb hts hiX3 hown hK hP 23 rfl rfl 2 (by decide) lk18 (fun _ h9 => h9) rfl dX3_becomes_31 ?_
  refine lv_iconst (v := 0) hx hb dX3_becomes_34 (by decide) ?_
  refine lv_aload_n hx hb dX3_becomes_35 rfl (lv_at hl 0 rfl) ?_
  refine va_get (D := D) (ci := 3) (v := .ref (ad 31)) (C := RX3) (T := TX3) (N := 4) hx hb hts hiX3 hown hK hP 28 rfl rfl 2 (by decide) lk18 (fun _ h9 => h9) rfl dX3_becomes_36 ?_
  refine lv_iconst (v := 0) hx hb dX3_becomes_39 (by decide) ?_
  refine lv_bipush (v := 20) hx hb dX3_becomes_40 (by decide) ?_
  obtain ⟨f3, ef3, hf⟩ := sq_out hf
  refine va_copyi hx hb (by rw [hml]; exact hl.1.symm) hown (hts (.methodLink RX3 33 arraycopyName) (by decide +kernel)) (hts (.native arraycopyName) (by decide +kernel)) (hts (.static arraycopyName) (by decide +kernel)) (hts (.initialized "java/lang/System") (by decide +kernel)) hK hP (dP hj f2 t) hS 26 31 1 1 rfl rfl rfl rfl rfl (by decide) (by decide) (by decide) (by decide) (by decide) (fun _ _ => rfl) (Nat.le_trans (by decide) hR.1) (Nat.le_trans (Nat.le_of_ble_eq_true rfl) hR.2) dX3_becomes_42 (fun H locs hP _ hS => ?_)
  have hP := sP_31 ef3 hP
  refine lv_aload_n hx hb dX3_becomes_45 rfl (lv_at hl 0 rfl) ?_
  refine lv_aload_n hx hb dX3_becomes_46 rfl (lv_at hl 1 rfl) ?_
  refine va_get (D := D) (ci := 3) (v := .int (f3 23 3)) (C := RX3) (T := TX3) (N := 4) hx hb hts hiX3 hown hK hP 23 rfl rfl 3 (by decide) lk21 (fun _ h9 => h9) rfl dX3_becomes_47 ?_
  obtain ⟨f4, ef4, hf⟩ := sq_out hf
  refine va_put (D := D) (ci := 3) (v := .int (f3 23 3)) (ty := .int) (C := RX3) (T := TX3) (N := 4) hx hb hts hiX3 tyX3 tyX3_ok nmX3 hown hK hP (dP hj f3 t) hS 28 rfl rfl 3 (by decide) lk21 (fun _ h9 => h9) rfl (by decide +kernel) rfl rfl (Nat.le_of_ble_eq_true rfl) dX3_becomes_50 (fun H locs hP _ hS => ?_)
  have hP := sP_28_3 ef4 hP
  obtain rfl := Option.some.inj hf
  exact kr H locs ls 53 dX3_becomes_53 hP hS
set_option maxHeartbeats 4000000 in
set_option maxRecDepth 100000 in
theorem c_X3_becomes_28_23 (hj : jP ad) (l : Launch)  (f : mM) (t : Int64) (fR : mM) (hf : q_X3_becomes_28_23 f = some fR) : Met l yX3_becomes wsX3_becomes ({ frames := 1, cells := 0, slots := 0, locals := 49 }) (va_Pc ([.ref (ad 28), .ref (ad 23)]) (pre D cy (wP ad cy) (xP ad sk sv) f t)) (va_Qv (fun (u : mM × Int64) => u = (fR, t)) (atW D (wP ad cy)) (aP ad)) 0 0 (aP ad) := by
  refine Met.ofW (cc := cX3_becomes) (maxL := 2) (ret := none) (by decide) rfl ?_
  intro p e s m args below meth c s₁ B hml hv
  obtain ⟨rfl, hP, hK, hX0⟩ := hv
  have hl := lv_entry ([.ref (ad 28), .ref (ad 23)]) (n := 2) (Nat.le_of_ble_eq_true rfl)
  rw [lg_entry_eq]
  generalize (lg_sl ([.ref (ad 28), .ref (ad 23)]) ++ List.replicate (2 - (lg_sl ([.ref (ad 28), .ref (ad 23)])).length) Slot.unset).toArray = ls at hl ⊢
  have hlocks := B.notSynchronized
  exact b_X3_becomes_28_23 ⟨B.exec, B.bytes, B.returns, hml, findClass_of_methodNamed B.named, atoms_spec (ws := wsX3_becomes) B.pre, hlocks, hK, hX0⟩ hj ⟨Nat.le_refl _, Nat.le_refl _⟩  f t fR hf (fun H locs ls pc hd hP hS => W.vret B.exec B.bytes B.returns (fun t2 ht hW => ⟨⟨(fR, t), rfl, rfl, by show va_P D vwCl _ t2.heap; rw [ht]; exact hP⟩, hS.F ht⟩) hS.2.2 hd) s.heap [] ls hP va_S.rf hl
def q_X3_becomes_32_23 (f : mM) : Option (mM) := sq (cp2 f 24 33 9) (fun f1 => sq (cp2 f1 25 34 20) (fun f2 => sq (cp2 f2 26 35 20) (fun f3 => sq (st2 f3 32 3 (f3 23 3)) (fun f4 => some f4))))
set_option maxHeartbeats 4000000 in
set_option maxRecDepth 100000 in
theorem b_X3_becomes_32_23 (C0 : cX p s m args meth c cX3_becomes 2 none RX3 wsX3_becomes D cy (xP ad sk sv)) (hj : jP ad) (hR : 1 ≤ R.frames ∧ 49 ≤ R.locals)  (f : mM) (t : Int64) (fR : mM) (hf : q_X3_becomes_32_23 f = some fR) (kr : ∀ (H : Heap) (locs : List Loc) (ls : Array Slot) (pc : Nat), decode cX3_becomes pc = .ok (.return_, 1) → va_P D vwCl (wP ad cy fR t) H → va_S (aP ad) s.heap H locs → W p l e R s m args below meth c H locs 0 0 Q (F0 m pc ls [])) (H : Heap) (locs : List Loc) (ls : Array Slot) (hP : va_P D vwCl (wP ad cy f t) H) (hS : va_S (aP ad) s.heap H locs) (hl : lv_has ls 2 [(0, .ref (ad 32)), (1, .ref (ad 23))]) : W p l e R s m args below meth c H locs 0 0 Q (F0 m 0 ls []) := by
  obtain ⟨hx, hb, hr, hml, hown, hts, hlocks, hK, hX0⟩ := id C0
  have lk9 := hts (.fieldLink RX3 9 "PlankNine$Now" "bears" "[I") (List.mem_of_getElem? (i := 1) rfl)
  have hiX3 : ∀ w ∈ u_ws RX3 TX3 4, w ∈ wsX3_becomes := fun w h => List.mem_cons_of_mem _ (List.mem_append_right _ h)
  have lk15 := hts (.fieldLink RX3 15 "PlankNine$Now" "wentPlank" "[I") (List.mem_of_getElem? (i := 6) rfl)
  have lk18 := hts (.fieldLink RX3 18 "PlankNine$Now" "wentWith" "[I") (List.mem_of_getElem? (i := 7) rfl)
  have lk21 := hts (.fieldLink RX3 21 "PlankNine$Now" "known" "I") (List.mem_of_getElem? (i := 8) rfl)
  unfold q_X3_becomes_32_23 at hf
  refine lv_aload_n hx hb dX3_becomes_0 rfl (lv_at hl 1 rfl) ?_
  refine va_get (D := D) (ci := 3) (v := .ref (ad 24)) (C := RX3) (T := TX3) (N := 4) hx hb hts hiX3 hown hK hP 23 rfl rfl 0 (by decide) lk9 (fun _ h9 => h9) rfl dX3_becomes_1 ?_
  refine lv_iconst (v := 0) hx hb dX3_becomes_4 (by decide) ?_
  refine lv_aload_n hx hb dX3_becomes_5 rfl (lv_at hl 0 rfl) ?_
  refine va_get (D := D) (ci := 3) (v := .ref (ad 33)) (C := RX3) (T := TX3) (N := 4) hx hb hts hiX3 hown hK hP 32 rfl rfl 0 (by decide) lk9 (fun _ h9 => h9) rfl dX3_becomes_6 ?_
  refine lv_iconst (v := 0) hx hb dX3_becomes_9 (by decide) ?_
  refine lv_bipush (v := 9) hx hb dX3_becomes_10 (by decide) ?_
  obtain ⟨f1, ef1, hf⟩ := sq_out hf
  refine va_copyi hx hb (by rw [hml]; exact hl.1.symm) hown (hts (.methodLink RX3 33 arraycopyName) (by decide +kernel)) (hts (.native arraycopyName) (by decide +kernel)) (hts (.static arraycopyName) (by decide +kernel)) (hts (.initialized "java/lang/System") (by decide +kernel)) hK hP (dP hj f t) hS 24 33 1 1 rfl rfl rfl rfl rfl (by decide) (by decide) (by decide) (by decide) (by decide) (fun _ _ => rfl) (Nat.le_trans (by decide) hR.1) (Nat.le_trans (Nat.le_of_ble_eq_true rfl) hR.2) dX3_becomes_12 (fun H locs hP _ hS => ?_)
  have hP := sP_33 ef1 hP
  refine lv_aload_n hx hb dX3_becomes_15 rfl (lv_at hl 1 rfl) ?_
  refine va_get (D := D) (ci := 3) (v := .ref (ad 25)) (C := RX3) (T := TX3) (N := 4) hx hb hts hiX3 hown hK hP 23 rfl rfl 1 (by decide) lk15 (fun _ h9 => h9) rfl dX3_becomes_16 ?_
  refine lv_iconst (v := 0) hx hb dX3_becomes_19 (by decide) ?_
  refine lv_aload_n hx hb dX3_becomes_20 rfl (lv_at hl 0 rfl) ?_
  refine va_get (D := D) (ci := 3) (v := .ref (ad 34)) (C := RX3) (T := TX3) (N := 4) hx hb hts hiX3 hown hK hP 32 rfl rfl 1 (by decide) lk15 (fun _ h9 => h9) rfl dX3_becomes_21 ?_
  refine lv_iconst (v := 0) hx hb dX3_becomes_24 (by decide) ?_
  refine lv_bipush (v := 20) hx hb dX3_becomes_25 (by decide) ?_
  obtain ⟨f2, ef2, hf⟩ := sq_out hf
  refine va_copyi hx hb (by rw [hml]; exact hl.1.symm) hown (hts (.methodLink RX3 33 arraycopyName) (by decide +kernel)) (hts (.native arraycopyName) (by decide +kernel)) (hts (.static arraycopyName) (by decide +kernel)) (hts (.initialized "java/lang/System") (by decide +kernel)) hK hP (dP hj f1 t) hS 25 34 1 1 rfl rfl rfl rfl rfl (by decide) (by decide) (by decide) (by decide) (by decide) (fun _ _ => rfl) (Nat.le_trans (by decide) hR.1) (Nat.le_trans (Nat.le_of_ble_eq_true rfl) hR.2) dX3_becomes_27 (fun H locs hP _ hS => ?_)
  have hP := sP_34 ef2 hP
  refine lv_aload_n hx hb dX3_becomes_30 rfl (lv_at hl 1 rfl) ?_
  refine va_get (D := D) (ci := 3) (v := .ref (ad 26)) (C := RX3) (T := TX3) (N := 4) hx hb hts hiX3 hown hK hP 23 rfl rfl 2 (by decide) lk18 (fun _ h9 => h9) rfl dX3_becomes_31 ?_
  refine lv_iconst (v := 0) hx hb dX3_becomes_34 (by decide) ?_
  refine lv_aload_n hx hb dX3_becomes_35 rfl (lv_at hl 0 rfl) ?_
  refine va_get (D := D) (ci := 3) (v := .ref (ad 35)) (C := RX3) (T := TX3) (N := 4) hx hb hts hiX3 hown hK hP 32 rfl rfl 2 (by decide) lk18 (fun _ h9 => h9) rfl dX3_becomes_36 ?_
  refine lv_iconst (v := 0) hx hb dX3_becomes_39 (by decide) ?_
  refine lv_bipush (v := 20) hx hb dX3_becomes_40 (by decide) ?_
  obtain ⟨f3, ef3, hf⟩ := sq_out hf
  refine va_copyi hx hb (by rw [hml]; exact hl.1.symm) hown (hts (.methodLink RX3 33 arraycopyName) (by decide +kernel)) (hts (.native arraycopyName) (by decide +kernel)) (hts (.static arraycopyName) (by decide +kernel)) (hts (.initialized "java/lang/System") (by decide +kernel)) hK hP (dP hj f2 t) hS 26 35 1 1 rfl rfl rfl rfl rfl (by decide) (by decide) (by decide) (by decide) (by decide) (fun _ _ => rfl) (Nat.le_trans (by decide) hR.1) (Nat.le_trans (Nat.le_of_ble_eq_true rfl) hR.2) dX3_becomes_42 (fun H locs hP _ hS => ?_)
  have hP := sP_35 ef3 hP
  refine lv_aload_n hx hb dX3_becomes_45 rfl (lv_at hl 0 rfl) ?_
  refine lv_aload_n hx hb dX3_becomes_46 rfl (lv_at hl 1 rfl) ?_
  refine va_get (D := D) (ci := 3) (v := .int (f3 23 3)) (C := RX3) (T := TX3) (N := 4) hx hb hts hiX3 hown hK hP 23 rfl rfl 3 (by decide) lk21 (fun _ h9 => h9) rfl dX3_becomes_47 ?_
  obtain ⟨f4, ef4, hf⟩ := sq_out hf
  refine va_put (D := D) (ci := 3) (v := .int (f3 23 3)) (ty := .int) (C := RX3) (T := TX3) (N := 4) hx hb hts hiX3 tyX3 tyX3_ok nmX3 hown hK hP (dP hj f3 t) hS 32 rfl rfl 3 (by decide) lk21 (fun _ h9 => h9) rfl (by decide +kernel) rfl rfl (Nat.le_of_ble_eq_true rfl) dX3_becomes_50 (fun H locs hP _ hS => ?_)
  have hP := sP_32_3 ef4 hP
  obtain rfl := Option.some.inj hf
  exact kr H locs ls 53 dX3_becomes_53 hP hS
set_option maxHeartbeats 4000000 in
set_option maxRecDepth 100000 in
theorem c_X3_becomes_32_23 (hj : jP ad) (l : Launch)  (f : mM) (t : Int64) (fR : mM) (hf : q_X3_becomes_32_23 f = some fR) : Met l yX3_becomes wsX3_becomes ({ frames := 1, cells := 0, slots := 0, locals := 49 }) (va_Pc ([.ref (ad 32), .ref (ad 23)]) (pre D cy (wP ad cy) (xP ad sk sv) f t)) (va_Qv (fun (u : mM × Int64) => u = (fR, t)) (atW D (wP ad cy)) (aP ad)) 0 0 (aP ad) := by
  refine Met.ofW (cc := cX3_becomes) (maxL := 2) (ret := none) (by decide) rfl ?_
  intro p e s m args below meth c s₁ B hml hv
  obtain ⟨rfl, hP, hK, hX0⟩ := hv
  have hl := lv_entry ([.ref (ad 32), .ref (ad 23)]) (n := 2) (Nat.le_of_ble_eq_true rfl)
  rw [lg_entry_eq]
  generalize (lg_sl ([.ref (ad 32), .ref (ad 23)]) ++ List.replicate (2 - (lg_sl ([.ref (ad 32), .ref (ad 23)])).length) Slot.unset).toArray = ls at hl ⊢
  have hlocks := B.notSynchronized
  exact b_X3_becomes_32_23 ⟨B.exec, B.bytes, B.returns, hml, findClass_of_methodNamed B.named, atoms_spec (ws := wsX3_becomes) B.pre, hlocks, hK, hX0⟩ hj ⟨Nat.le_refl _, Nat.le_refl _⟩  f t fR hf (fun H locs ls pc hd hP hS => W.vret B.exec B.bytes B.returns (fun t2 ht hW => ⟨⟨(fR, t), rfl, rfl, by show va_P D vwCl _ t2.heap; rw [ht]; exact hP⟩, hS.F ht⟩) hS.2.2 hd) s.heap [] ls hP va_S.rf hl
