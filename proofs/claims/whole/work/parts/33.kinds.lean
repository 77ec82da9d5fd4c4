variable {p : Program} {l : Launch} {e : Env} {R : Room} {s : State} {m : MethodId} {args : Array Value} {below : List Frame} {meth : Method} {c : Code} {Q : State → Prop} {D : va_G} {cy : Nat → ClassId} {ad sk sv : Nat → Nat}
def q_X1_asPerson (x1 : Int32) (f : mM) (t : Int64) : Option (Int32 × Int64) := sq ((t + 1)) (fun t1 => gi x1 4 (some ((f 7 (Int32.toNatClampNeg x1)), t1)))
set_option maxHeartbeats 4000000 in
set_option maxRecDepth 100000 in
theorem b_X1_asPerson (C0 : cX p s m args meth c cX1_asPerson 2 (some .int) RX1 wsX1_asPerson D cy (xP ad sk sv)) (hj : jP ad) (hR : 0 ≤ R.frames ∧ 0 ≤ R.locals) (x1 : Int32) (f : mM) (t : Int64) (r : Int32) (tR : Int64) (hf : q_X1_asPerson x1 f t = some (r, tR)) (kr : ∀ (H : Heap) (locs : List Loc) (ls : Array Slot) (pc : Nat), decode cX1_asPerson pc = .ok (.ireturn, 1) → va_P D vwCl (wP ad cy f tR) H → va_S (aP ad) s.heap H locs → W p l e R s m args below meth c H locs 0 0 Q (F0 m pc ls [.int r])) (H : Heap) (locs : List Loc) (ls : Array Slot) (hP : va_P D vwCl (wP ad cy f t) H) (hS : va_S (aP ad) s.heap H locs) (hl : lv_has ls 2 [(0, .ref (ad 43)), (1, .int x1)]) : W p l e R s m args below meth c H locs 0 0 Q (F0 m 0 ls []) := by
  obtain ⟨hx, hb, hr, hml, hown, hts, hlocks, hK, hX0⟩ := id C0
  have lk9 := hts (.fieldLink RX1 9 "PlankNine$Kinds" "traced" "J") (List.mem_of_getElem? (i := 1) rfl)
  have hiX1 : ∀ w ∈ u_ws RX1 TX1 3, w ∈ wsX1_asPerson := fun w h => List.mem_cons_of_mem _ (List.mem_append_left _ (List.mem_append_right _ h))
  have lk15 := hts (.fieldLink RX1 15 "PlankNine$Kinds" "marsh" "LPlankNine$Marsh;") (List.mem_of_getElem? (i := 2) rfl)
  have ln43 := nlF_25 (args := args) hX0
  have hiX2 : ∀ w ∈ u_ws RX2 TX2 12, w ∈ wsX1_asPerson := fun w h => List.mem_cons_of_mem _ (List.mem_append_right _ h)
  unfold q_X1_asPerson at hf
  refine lv_aload_n hx hb dX1_asPerson_0 rfl (lv_at hl 0 rfl) ?_
  refine lv_dup hx hb dX1_asPerson_1 rfl ?_
  refine va_get (D := D) (ci := 1) (v := .long t) (C := RX1) (T := TX1) (N := 3) hx hb hts hiX1 hown hK hP 43 rfl rfl 2 (by decide) lk9 (fun _ h9 => h9) rfl dX1_asPerson_2 ?_
  refine lv_lconst (v := 1) hx hb dX1_asPerson_5 (by decide) ?_
  refine lv_ladd hx hb dX1_asPerson_6 ?_
  obtain ⟨t1, et1, hf⟩ := sq_out hf
  refine va_put (D := D) (ci := 1) (v := .long (t + 1)) (ty := .long) (C := RX1) (T := TX1) (N := 3) hx hb hts hiX1 tyX1 tyX1_ok nmX1 hown hK hP (dP hj f t) hS 43 rfl rfl 2 (by decide) lk9 (fun _ h9 => h9) rfl (by decide +kernel) rfl rfl (Nat.le_of_ble_eq_true rfl) dX1_asPerson_7 (fun H locs hP _ hS => ?_)
  have hP := sP_43_2 et1 hP
  refine lv_aload_n hx hb dX1_asPerson_10 rfl (lv_at hl 0 rfl) ?_
  refine va_get (D := D) (ci := 1) (v := .ref (ad 3)) (C := RX1) (T := TX1) (N := 3) hx hb hts hiX1 hown hK hP 43 rfl rfl 0 (by decide) lk15 (fun _ h9 => h9) rfl dX1_asPerson_11 ?_
  refine va_getN (D := D) (ci := 2) (v := .ref (ad 7)) (C := RX2) (T := TX2) (N := 12) hx hb hts hiX2 hown hK hP 3 rfl rfl 7 (by decide) ln43 (fun _ h9 => h9) rfl dX1_asPerson_14 ?_
  refine lv_iload_n hx hb dX1_asPerson_17 rfl (lv_at hl 1 rfl) ?_
  obtain ⟨hin2, hf⟩ := gi_out hf
  refine va_iald hx hb hK hP 7 1 rfl rfl hin2 dX1_asPerson_18 ?_
  obtain ⟨rfl, rfl⟩ := Prod.mk.inj (Option.some.inj hf)
  exact kr H locs ls 19 dX1_asPerson_19 hP hS
set_option maxHeartbeats 4000000 in
set_option maxRecDepth 100000 in
theorem c_X1_asPerson (hj : jP ad) (l : Launch) (x1 : Int32) (f : mM) (t : Int64) (r : Int32) (tR : Int64) (hf : q_X1_asPerson x1 f t = some (r, tR)) : Met l yX1_asPerson wsX1_asPerson ({ frames := 0, cells := 0, slots := 0, locals := 0 }) (va_Pc ([.ref (ad 43), .int x1]) (pre D cy (wP ad cy) (xP ad sk sv) f t)) (va_Qi (fun (r2 : Int32) (u : mM × Int64) => r2 = r ∧ u = (f, tR)) (atW D (wP ad cy)) (aP ad)) 0 0 (aP ad) := by
  refine Met.ofW (cc := cX1_asPerson) (maxL := 2) (ret := (some .int)) (by decide) rfl ?_
  intro p e s m args below meth c s₁ B hml hv
  obtain ⟨rfl, hP, hK, hX0⟩ := hv
  have hl := lv_entry ([.ref (ad 43), .int x1]) (n := 2) (Nat.le_of_ble_eq_true rfl)
  rw [lg_entry_eq]
  generalize (lg_sl ([.ref (ad 43), .int x1]) ++ List.replicate (2 - (lg_sl ([.ref (ad 43), .int x1])).length) Slot.unset).toArray = ls at hl ⊢
  have hlocks := B.notSynchronized
  exact b_X1_asPerson ⟨B.exec, B.bytes, B.returns, hml, findClass_of_methodNamed B.named, atoms_spec (ws := wsX1_asPerson) B.pre, hlocks, hK, hX0⟩ hj ⟨Nat.le_refl _, Nat.le_refl _⟩ x1 f t r tR hf (fun H locs ls pc hd hP hS => W.iret B.exec B.bytes B.returns (fun t2 ht hW => ⟨⟨r, (f, tR), rfl, ⟨rfl, rfl⟩, by show va_P D vwCl _ t2.heap; rw [ht]; exact hP⟩, hS.F ht⟩) hS.2.2 hd) s.heap [] ls hP va_S.rf hl
def q_X1_asFarmer (N : Nat) (x1 : Int32) (f : mM) (t : Int64) : Option (Int32 × Int64) := sq ((t + 10)) (fun t1 => bi2 (q_X1_asPerson x1 f t1) (fun y2 t3 => gi x1 4 (bi (q_X3_howManyBear N (f 7 (Int32.toNatClampNeg x1)) f) (fun y6 => some ((y2 + y6), t3)))))
set_option maxHeartbeats 4000000 in
set_option maxRecDepth 100000 in
theorem b_X1_asFarmer (C0 : cX p s m args meth c cX1_asFarmer 2 (some .int) RX1 wsX1_asFarmer D cy (xP ad sk sv)) (hj : jP ad) (hR : 1 ≤ R.frames ∧ 23 ≤ R.locals) (N : Nat) (x1 : Int32) (f : mM) (t : Int64) (r : Int32) (tR : Int64) (hf : q_X1_asFarmer N x1 f t = some (r, tR)) (kr : ∀ (H : Heap) (locs : List Loc) (ls : Array Slot) (pc : Nat), decode cX1_asFarmer pc = .ok (.ireturn, 1) → va_P D vwCl (wP ad cy f tR) H → va_S (aP ad) s.heap H locs → W p l e R s m args below meth c H locs 0 0 Q (F0 m pc ls [.int r])) (H : Heap) (locs : List Loc) (ls : Array Slot) (hP : va_P D vwCl (wP ad cy f t) H) (hS : va_S (aP ad) s.heap H locs) (hl : lv_has ls 2 [(0, .ref (ad 43)), (1, .int x1)]) : W p l e R s m args below meth c H locs 0 0 Q (F0 m 0 ls []) := by
  obtain ⟨hx, hb, hr, hml, hown, hts, hlocks, hK, hX0⟩ := id C0
  have lk9 := hts (.fieldLink RX1 9 "PlankNine$Kinds" "traced" "J") (List.mem_of_getElem? (i := 1) rfl)
  have hiX1 : ∀ w ∈ u_ws RX1 TX1 3, w ∈ wsX1_asFarmer := fun w h => List.mem_cons_of_mem _ (List.mem_append_left _ (List.mem_append_left _ (List.mem_append_right _ h)))
  have lk19 := hts (.fieldLink RX1 19 "PlankNine$Kinds" "now" "LPlankNine$Now;") (List.mem_of_getElem? (i := 3) rfl)
  have lk15 := hts (.fieldLink RX1 15 "PlankNine$Kinds" "marsh" "LPlankNine$Marsh;") (List.mem_of_getElem? (i := 4) rfl)
  have ln43 := nlF_25 (args := args) hX0
  have hiX2 : ∀ w ∈ u_ws RX2 TX2 12, w ∈ wsX1_asFarmer := fun w h => List.mem_cons_of_mem _ (List.mem_append_left _ (List.mem_append_right _ h))
  unfold q_X1_asFarmer at hf
  refine lv_aload_n hx hb dX1_asFarmer_0 rfl (lv_at hl 0 rfl) ?_
  refine lv_dup hx hb dX1_asFarmer_1 rfl ?_
  refine va_get (D := D) (ci := 1) (v := .long t) (C := RX1) (T := TX1) (N := 3) hx hb hts hiX1 hown hK hP 43 rfl rfl 2 (by decide) lk9 (fun _ h9 => h9) rfl dX1_asFarmer_2 ?_
  refine lv_ldc2 (v := 10) hx hb hown (hts (.constantLong RX1 49 (10)) (List.mem_of_getElem? (i := 2) rfl)) dX1_asFarmer_5 ?_
  refine lv_ladd hx hb dX1_asFarmer_8 ?_
  obtain ⟨t1, et1, hf⟩ := sq_out hf
  refine va_put (D := D) (ci := 1) (v := .long (t + 10)) (ty := .long) (C := RX1) (T := TX1) (N := 3) hx hb hts hiX1 tyX1 tyX1_ok nmX1 hown hK hP (dP hj f t) hS 43 rfl rfl 2 (by decide) lk9 (fun _ h9 => h9) rfl (by decide +kernel) rfl rfl (Nat.le_of_ble_eq_true rfl) dX1_asFarmer_9 (fun H locs hP _ hS => ?_)
  have hP := sP_43_2 et1 hP
  refine lv_aload_n hx hb dX1_asFarmer_12 rfl (lv_at hl 0 rfl) ?_
  refine lv_iload_n hx hb dX1_asFarmer_13 rfl (lv_at hl 1 rfl) ?_
  obtain ⟨y2, t3, hq4, hf⟩ := bi2_out hf
  refine cw_vi (As := [.int x1]) (rest := []) ⟨hx, hb, hml, hown, hts⟩ xP_S hK hX0 hS hP (c_X1_asPerson hj l x1 f t1 y2 t3 hq4) (cwV 1 hts gX1_asFarmer_X1_asPerson rfl rfl rfl (by decide +kernel) ⟨Nat.le_trans (Nat.le_of_ble_eq_true rfl) hR.1, Nat.le_trans (Nat.le_of_ble_eq_true rfl) hR.2⟩) (va_recv hK hP (ci := 1) (q0 := 43) rfl rfl) rfl hl.1 rfl (Nat.le_of_ble_eq_true rfl) ⟨Nat.zero_le _, Nat.zero_le _⟩ dX1_asFarmer_14 (fun H locs hP hS => ?_)
  refine lv_aload_n hx hb dX1_asFarmer_17 rfl (lv_at hl 0 rfl) ?_
  refine va_get (D := D) (ci := 1) (v := .ref (ad 23)) (C := RX1) (T := TX1) (N := 3) hx hb hts hiX1 hown hK hP 43 rfl rfl 1 (by decide) lk19 (fun _ h9 => h9) rfl dX1_asFarmer_18 ?_
  refine lv_aload_n hx hb dX1_asFarmer_21 rfl (lv_at hl 0 rfl) ?_
  refine va_get (D := D) (ci := 1) (v := .ref (ad 3)) (C := RX1) (T := TX1) (N := 3) hx hb hts hiX1 hown hK hP 43 rfl rfl 0 (by decide) lk15 (fun _ h9 => h9) rfl dX1_asFarmer_22 ?_
  refine va_getN (D := D) (ci := 2) (v := .ref (ad 7)) (C := RX2) (T := TX2) (N := 12) hx hb hts hiX2 hown hK hP 3 rfl rfl 7 (by decide) ln43 (fun _ h9 => h9) rfl dX1_asFarmer_25 ?_
  refine lv_iload_n hx hb dX1_asFarmer_28 rfl (lv_at hl 1 rfl) ?_
  obtain ⟨hin5, hf⟩ := gi_out hf
  refine va_iald hx hb hK hP 7 1 rfl rfl hin5 dX1_asFarmer_29 ?_
  obtain ⟨y6, hq7, hf⟩ := bi_out hf
  refine cw_vi (As := [.int (f 7 (Int32.toNatClampNeg x1))]) (rest := [.int y2]) ⟨hx, hb, hml, hown, hts⟩ xP_S hK hX0 hS hP (c_X3_howManyBear hj l N (f 7 (Int32.toNatClampNeg x1)) f t3 y6 hq7) (cwV 1 hts gX1_asFarmer_X3_howManyBear rfl rfl rfl (by decide +kernel) ⟨Nat.le_trans (Nat.le_of_ble_eq_true rfl) hR.1, Nat.le_trans (Nat.le_of_ble_eq_true rfl) hR.2⟩) (va_recv hK hP (ci := 3) (q0 := 23) rfl rfl) rfl hl.1 rfl (Nat.le_of_ble_eq_true rfl) ⟨Nat.zero_le _, Nat.zero_le _⟩ dX1_asFarmer_30 (fun H locs hP hS => ?_)
  refine lv_iadd hx hb dX1_asFarmer_33 ?_
  obtain ⟨rfl, rfl⟩ := Prod.mk.inj (Option.some.inj hf)
  exact kr H locs ls 34 dX1_asFarmer_34 hP hS
set_option maxHeartbeats 4000000 in
set_option maxRecDepth 100000 in
theorem c_X1_asFarmer (hj : jP ad) (l : Launch) (N : Nat) (x1 : Int32) (f : mM) (t : Int64) (r : Int32) (tR : Int64) (hf : q_X1_asFarmer N x1 f t = some (r, tR)) : Met l yX1_asFarmer wsX1_asFarmer ({ frames := 1, cells := 0, slots := 0, locals := 23 }) (va_Pc ([.ref (ad 43), .int x1]) (pre D cy (wP ad cy) (xP ad sk sv) f t)) (va_Qi (fun (r2 : Int32) (u : mM × Int64) => r2 = r ∧ u = (f, tR)) (atW D (wP ad cy)) (aP ad)) 0 0 (aP ad) := by
  refine Met.ofW (cc := cX1_asFarmer) (maxL := 2) (ret := (some .int)) (by decide) rfl ?_
  intro p e s m args below meth c s₁ B hml hv
  obtain ⟨rfl, hP, hK, hX0⟩ := hv
  have hl := lv_entry ([.ref (ad 43), .int x1]) (n := 2) (Nat.le_of_ble_eq_true rfl)
  rw [lg_entry_eq]
  generalize (lg_sl ([.ref (ad 43), .int x1]) ++ List.replicate (2 - (lg_sl ([.ref (ad 43), .int x1])).length) Slot.unset).toArray = ls at hl ⊢
  have hlocks := B.notSynchronized
  exact b_X1_asFarmer ⟨B.exec, B.bytes, B.returns, hml, findClass_of_methodNamed B.named, atoms_spec (ws := wsX1_asFarmer) B.pre, hlocks, hK, hX0⟩ hj ⟨Nat.le_refl _, Nat.le_refl _⟩ N x1 f t r tR hf (fun H locs ls pc hd hP hS => W.iret B.exec B.bytes B.returns (fun t2 ht hW => ⟨⟨r, (f, tR), rfl, ⟨rfl, rfl⟩, by show va_P D vwCl _ t2.heap; rw [ht]; exact hP⟩, hS.F ht⟩) hS.2.2 hd) s.heap [] ls hP va_S.rf hl
def q_X1_asLeaper (x1 : Int32) (f : mM) (t : Int64) : Option (Int32 × Int64) := sq ((t + 100)) (fun t1 => bi2 (q_X1_asPerson x1 f t1) (fun y2 t3 => gi x1 4 (some ((y2 - (f 8 (Int32.toNatClampNeg x1))), t3))))
set_option maxHeartbeats 4000000 in
set_option maxRecDepth 100000 in
theorem b_X1_asLeaper (C0 : cX p s m args meth c cX1_asLeaper 2 (some .int) RX1 wsX1_asLeaper D cy (xP ad sk sv)) (hj : jP ad) (hR : 1 ≤ R.frames ∧ 21 ≤ R.locals) (x1 : Int32) (f : mM) (t : Int64) (r : Int32) (tR : Int64) (hf : q_X1_asLeaper x1 f t = some (r, tR)) (kr : ∀ (H : Heap) (locs : List Loc) (ls : Array Slot) (pc : Nat), decode cX1_asLeaper pc = .ok (.ireturn, 1) → va_P D vwCl (wP ad cy f tR) H → va_S (aP ad) s.heap H locs → W p l e R s m args below meth c H locs 0 0 Q (F0 m pc ls [.int r])) (H : Heap) (locs : List Loc) (ls : Array Slot) (hP : va_P D vwCl (wP ad cy f t) H) (hS : va_S (aP ad) s.heap H locs) (hl : lv_has ls 2 [(0, .ref (ad 43)), (1, .int x1)]) : W p l e R s m args below meth c H locs 0 0 Q (F0 m 0 ls []) := by
  obtain ⟨hx, hb, hr, hml, hown, hts, hlocks, hK, hX0⟩ := id C0
  have lk9 := hts (.fieldLink RX1 9 "PlankNine$Kinds" "traced" "J") (List.mem_of_getElem? (i := 1) rfl)
  have hiX1 : ∀ w ∈ u_ws RX1 TX1 3, w ∈ wsX1_asLeaper := fun w h => List.mem_cons_of_mem _ (List.mem_append_left _ (List.mem_append_right _ h))
  have lk15 := hts (.fieldLink RX1 15 "PlankNine$Kinds" "marsh" "LPlankNine$Marsh;") (List.mem_of_getElem? (i := 3) rfl)
  have ln58 := nlF_28 (args := args) hX0
  have hiX2 : ∀ w ∈ u_ws RX2 TX2 12, w ∈ wsX1_asLeaper := fun w h => List.mem_cons_of_mem _ (List.mem_append_right _ h)
  unfold q_X1_asLeaper at hf
  refine lv_aload_n hx hb dX1_asLeaper_0 rfl (lv_at hl 0 rfl) ?_
  refine lv_dup hx hb dX1_asLeaper_1 rfl ?_
  refine va_get (D := D) (ci := 1) (v := .long t) (C := RX1) (T := TX1) (N := 3) hx hb hts hiX1 hown hK hP 43 rfl rfl 2 (by decide) lk9 (fun _ h9 => h9) rfl dX1_asLeaper_2 ?_
  refine lv_ldc2 (v := 100) hx hb hown (hts (.constantLong RX1 56 (100)) (List.mem_of_getElem? (i := 2) rfl)) dX1_asLeaper_5 ?_
  refine lv_ladd hx hb dX1_asLeaper_8 ?_
  obtain ⟨t1, et1, hf⟩ := sq_out hf
  refine va_put (D := D) (ci := 1) (v := .long (t + 100)) (ty := .long) (C := RX1) (T := TX1) (N := 3) hx hb hts hiX1 tyX1 tyX1_ok nmX1 hown hK hP (dP hj f t) hS 43 rfl rfl 2 (by decide) lk9 (fun _ h9 => h9) rfl (by decide +kernel) rfl rfl (Nat.le_of_ble_eq_true rfl) dX1_asLeaper_9 (fun H locs hP _ hS => ?_)
  have hP := sP_43_2 et1 hP
  refine lv_aload_n hx hb dX1_asLeaper_12 rfl (lv_at hl 0 rfl) ?_
  refine lv_iload_n hx hb dX1_asLeaper_13 rfl (lv_at hl 1 rfl) ?_
  obtain ⟨y2, t3, hq4, hf⟩ := bi2_out hf
  refine cw_vi (As := [.int x1]) (rest := []) ⟨hx, hb, hml, hown, hts⟩ xP_S hK hX0 hS hP (c_X1_asPerson hj l x1 f t1 y2 t3 hq4) (cwV 1 hts gX1_asLeaper_X1_asPerson rfl rfl rfl (by decide +kernel) ⟨Nat.le_trans (Nat.le_of_ble_eq_true rfl) hR.1, Nat.le_trans (Nat.le_of_ble_eq_true rfl) hR.2⟩) (va_recv hK hP (ci := 1) (q0 := 43) rfl rfl) rfl hl.1 rfl (Nat.le_of_ble_eq_true rfl) ⟨Nat.zero_le _, Nat.zero_le _⟩ dX1_asLeaper_14 (fun H locs hP hS => ?_)
  refine lv_aload_n hx hb dX1_asLeaper_17 rfl (lv_at hl 0 rfl) ?_
  refine va_get (D := D) (ci := 1) (v := .ref (ad 3)) (C := RX1) (T := TX1) (N := 3) hx hb hts hiX1 hown hK hP 43 rfl rfl 0 (by decide) lk15 (fun _ h9 => h9) rfl dX1_asLeaper_18 ?_
  refine va_getN (D := D) (ci := 2) (v := .ref (ad 8)) (C := RX2) (T := TX2) (N := 12) hx hb hts hiX2 hown hK hP 3 rfl rfl 8 (by decide) ln58 (fun _ h9 => h9) rfl dX1_asLeaper_21 ?_
  refine lv_iload_n hx hb dX1_asLeaper_24 rfl (lv_at hl 1 rfl) ?_
  obtain ⟨hin5, hf⟩ := gi_out hf
  refine va_iald hx hb hK hP 8 1 rfl rfl hin5 dX1_asLeaper_25 ?_
  refine lv_isub hx hb dX1_asLeaper_26 ?_
  obtain ⟨rfl, rfl⟩ := Prod.mk.inj (Option.some.inj hf)
  exact kr H locs ls 27 dX1_asLeaper_27 hP hS
set_option maxHeartbeats 4000000 in
set_option maxRecDepth 100000 in
theorem c_X1_asLeaper (hj : jP ad) (l : Launch) (x1 : Int32) (f : mM) (t : Int64) (r : Int32) (tR : Int64) (hf : q_X1_asLeaper x1 f t = some (r, tR)) : Met l yX1_asLeaper wsX1_asLeaper ({ frames := 1, cells := 0, slots := 0, locals := 21 }) (va_Pc ([.ref (ad 43), .int x1]) (pre D cy (wP ad cy) (xP ad sk sv) f t)) (va_Qi (fun (r2 : Int32) (u : mM × Int64) => r2 = r ∧ u = (f, tR)) (atW D (wP ad cy)) (aP ad)) 0 0 (aP ad) := by
  refine Met.ofW (cc := cX1_asLeaper) (maxL := 2) (ret := (some .int)) (by decide) rfl ?_
  intro p e s m args below meth c s₁ B hml hv
  obtain ⟨rfl, hP, hK, hX0⟩ := hv
  have hl := lv_entry ([.ref (ad 43), .int x1]) (n := 2) (Nat.le_of_ble_eq_true rfl)
  rw [lg_entry_eq]
  generalize (lg_sl ([.ref (ad 43), .int x1]) ++ List.replicate (2 - (lg_sl ([.ref (ad 43), .int x1])).length) Slot.unset).toArray = ls at hl ⊢
  have hlocks := B.notSynchronized
  exact b_X1_asLeaper ⟨B.exec, B.bytes, B.returns, hml, findClass_of_methodNamed B.named, atoms_spec (ws := wsX1_asLeaper) B.pre, hlocks, hK, hX0⟩ hj ⟨Nat.le_refl _, Nat.le_refl _⟩ x1 f t r tR hf (fun H locs ls pc hd hP hS => W.iret B.exec B.bytes B.returns (fun t2 ht hW => ⟨⟨r, (f, tR), rfl, ⟨rfl, rfl⟩, by show va_P D vwCl _ t2.heap; rw [ht]; exact hP⟩, hS.F ht⟩) hS.2.2 hd) s.heap [] ls hP va_S.rf hl
def q_X1_asCarter (N : Nat) (x1 : Int32) (f : mM) (t : Int64) : Option (Int32 × Int64) := sq ((t + 1000)) (fun t1 => bi2 (q_X1_asFarmer N x1 f t1) (fun y2 t3 => some ((2 * y2), t3)))
set_option maxHeartbeats 4000000 in
set_option maxRecDepth 100000 in
theorem b_X1_asCarter (C0 : cX p s m args meth c cX1_asCarter 2 (some .int) RX1 wsX1_asCarter D cy (xP ad sk sv)) (hj : jP ad) (hR : 2 ≤ R.frames ∧ 44 ≤ R.locals) (N : Nat) (x1 : Int32) (f : mM) (t : Int64) (r : Int32) (tR : Int64) (hf : q_X1_asCarter N x1 f t = some (r, tR)) (kr : ∀ (H : Heap) (locs : List Loc) (ls : Array Slot) (pc : Nat), decode cX1_asCarter pc = .ok (.ireturn, 1) → va_P D vwCl (wP ad cy f tR) H → va_S (aP ad) s.heap H locs → W p l e R s m args below meth c H locs 0 0 Q (F0 m pc ls [.int r])) (H : Heap) (locs : List Loc) (ls : Array Slot) (hP : va_P D vwCl (wP ad cy f t) H) (hS : va_S (aP ad) s.heap H locs) (hl : lv_has ls 2 [(0, .ref (ad 43)), (1, .int x1)]) : W p l e R s m args below meth c H locs 0 0 Q (F0 m 0 ls []) := by
  obtain ⟨hx, hb, hr, hml, hown, hts, hlocks, hK, hX0⟩ := id C0
  have lk9 := hts (.fieldLink RX1 9 "PlankNine$Kinds" "traced" "J") (List.mem_of_getElem? (i := 1) rfl)
  have hiX1 : ∀ w ∈ u_ws RX1 TX1 3, w ∈ wsX1_asCarter := fun w h => List.mem_cons_of_mem _ (List.mem_append_left _ (List.mem_append_left _ (List.mem_append_right _ h)))
  unfold q_X1_asCarter at hf
  refine lv_aload_n hx hb dX1_asCarter_0 rfl (lv_at hl 0 rfl) ?_
  refine lv_dup hx hb dX1_asCarter_1 rfl ?_
  refine va_get (D := D) (ci := 1) (v := .long t) (C := RX1) (T := TX1) (N := 3) hx hb hts hiX1 hown hK hP 43 rfl rfl 2 (by decide) lk9 (fun _ h9 => h9) rfl dX1_asCarter_2 ?_
  refine lv_ldc2 (v := 1000) hx hb hown (hts (.constantLong RX1 61 (1000)) (List.mem_of_getElem? (i := 2) rfl)) dX1_asCarter_5 ?_
  refine lv_ladd hx hb dX1_asCarter_8 ?_
  obtain ⟨t1, et1, hf⟩ := sq_out hf
  refine va_put (D := D) (ci := 1) (v := .long (t + 1000)) (ty := .long) (C := RX1) (T := TX1) (N := 3) hx hb hts hiX1 tyX1 tyX1_ok nmX1 hown hK hP (dP hj f t) hS 43 rfl rfl 2 (by decide) lk9 (fun _ h9 => h9) rfl (by decide +kernel) rfl rfl (Nat.le_of_ble_eq_true rfl) dX1_asCarter_9 (fun H locs hP _ hS => ?_)
  have hP := sP_43_2 et1 hP
  refine lv_iconst (v := 2) hx hb dX1_asCarter_12 (by decide) ?_
  refine lv_aload_n hx hb dX1_asCarter_13 rfl (lv_at hl 0 rfl) ?_
  refine lv_iload_n hx hb dX1_asCarter_14 rfl (lv_at hl 1 rfl) ?_
  obtain ⟨y2, t3, hq4, hf⟩ := bi2_out hf
  refine cw_vi (As := [.int x1]) (rest := [.int 2]) ⟨hx, hb, hml, hown, hts⟩ xP_S hK hX0 hS hP (c_X1_asFarmer hj l N x1 f t1 y2 t3 hq4) (cwV 1 hts gX1_asCarter_X1_asFarmer rfl rfl rfl (by decide +kernel) ⟨Nat.le_trans (Nat.le_of_ble_eq_true rfl) hR.1, Nat.le_trans (Nat.le_of_ble_eq_true rfl) hR.2⟩) (va_recv hK hP (ci := 1) (q0 := 43) rfl rfl) rfl hl.1 rfl (Nat.le_of_ble_eq_true rfl) ⟨Nat.zero_le _, Nat.zero_le _⟩ dX1_asCarter_15 (fun H locs hP hS => ?_)
  refine lv_imul hx hb dX1_asCarter_18 ?_
  obtain ⟨rfl, rfl⟩ := Prod.mk.inj (Option.some.inj hf)
  exact kr H locs ls 19 dX1_asCarter_19 hP hS
set_option maxHeartbeats 4000000 in
set_option maxRecDepth 100000 in
theorem c_X1_asCarter (hj : jP ad) (l : Launch) (N : Nat) (x1 : Int32) (f : mM) (t : Int64) (r : Int32) (tR : Int64) (hf : q_X1_asCarter N x1 f t = some (r, tR)) : Met l yX1_asCarter wsX1_asCarter ({ frames := 2, cells := 0, slots := 0, locals := 44 }) (va_Pc ([.ref (ad 43), .int x1]) (pre D cy (wP ad cy) (xP ad sk sv) f t)) (va_Qi (fun (r2 : Int32) (u : mM × Int64) => r2 = r ∧ u = (f, tR)) (atW D (wP ad cy)) (aP ad)) 0 0 (aP ad) := by
  refine Met.ofW (cc := cX1_asCarter) (maxL := 2) (ret := (some .int)) (by decide) rfl ?_
  intro p e s m args below meth c s₁ B hml hv
  obtain ⟨rfl, hP, hK, hX0⟩ := hv
  have hl := lv_entry ([.ref (ad 43), .int x1]) (n := 2) (Nat.le_of_ble_eq_true rfl)
  rw [lg_entry_eq]
  generalize (lg_sl ([.ref (ad 43), .int x1]) ++ List.replicate (2 - (lg_sl ([.ref (ad 43), .int x1])).length) Slot.unset).toArray = ls at hl ⊢
  have hlocks := B.notSynchronized
  exact b_X1_asCarter ⟨B.exec, B.bytes, B.returns, hml, findClass_of_methodNamed B.named, atoms_spec (ws := wsX1_asCarter) B.pre, hlocks, hK, hX0⟩ hj ⟨Nat.le_refl _, Nat.le_refl _⟩ N x1 f t r tR hf (fun H locs ls pc hd hP hS => W.iret B.exec B.bytes B.returns (fun t2 ht hW => ⟨⟨r, (f, tR), rfl, ⟨rfl, rfl⟩, by show va_P D vwCl _ t2.heap; rw [ht]; exact hP⟩, hS.F ht⟩) hS.2.2 hd) s.heap [] ls hP va_S.rf hl
def q_X1_asThief (x1 : Int32) (f : mM) (t : Int64) : Option (Int32 × Int64) := sq ((t + 10000)) (fun t1 => bi2 (q_X1_asLeaper x1 f t1) (fun y2 t3 => some ((y2 + x1), t3)))
set_option maxHeartbeats 4000000 in
set_option maxRecDepth 100000 in
theorem b_X1_asThief (C0 : cX p s m args meth c cX1_asThief 2 (some .int) RX1 wsX1_asThief D cy (xP ad sk sv)) (hj : jP ad) (hR : 2 ≤ R.frames ∧ 42 ≤ R.locals) (x1 : Int32) (f : mM) (t : Int64) (r : Int32) (tR : Int64) (hf : q_X1_asThief x1 f t = some (r, tR)) (kr : ∀ (H : Heap) (locs : List Loc) (ls : Array Slot) (pc : Nat), decode cX1_asThief pc = .ok (.ireturn, 1) → va_P D vwCl (wP ad cy f tR) H → va_S (aP ad) s.heap H locs → W p l e R s m args below meth c H locs 0 0 Q (F0 m pc ls [.int r])) (H : Heap) (locs : List Loc) (ls : Array Slot) (hP : va_P D vwCl (wP ad cy f t) H) (hS : va_S (aP ad) s.heap H locs) (hl : lv_has ls 2 [(0, .ref (ad 43)), (1, .int x1)]) : W p l e R s m args below meth c H locs 0 0 Q (F0 m 0 ls []) := by
  obtain ⟨hx, hb, hr, hml, hown, hts, hlocks, hK, hX0⟩ := id C0
  have lk9 := hts (.fieldLink RX1 9 "PlankNine$Kinds" "traced" "J") (List.mem_of_getElem? (i := 1) rfl)
  have hiX1 : ∀ w ∈ u_ws RX1 TX1 3, w ∈ wsX1_asThief := fun w h => List.mem_cons_of_mem _ (List.mem_append_left _ (List.mem_append_right _ h))
  unfold q_X1_asThief at hf
  refine lv_aload_n hx hb dX1_asThief_0 rfl (lv_at hl 0 rfl) ?_
  refine lv_dup hx hb dX1_asThief_1 rfl ?_
  refine va_get (D := D) (ci := 1) (v := .long t) (C := RX1) (T := TX1) (N := 3) hx hb hts hiX1 hown hK hP 43 rfl rfl 2 (by decide) lk9 (fun _ h9 => h9) rfl dX1_asThief_2 ?_
  refine lv_ldc2 (v := 10000) hx hb hown (hts (.constantLong RX1 63 (10000)) (List.mem_of_getElem? (i := 2) rfl)) dX1_asThief_5 ?_
  refine lv_ladd hx hb dX1_asThief_8 ?_
  obtain ⟨t1, et1, hf⟩ := sq_out hf
  refine va_put (D := D) (ci := 1) (v := .long (t + 10000)) (ty := .long) (C := RX1) (T := TX1) (N := 3) hx hb hts hiX1 tyX1 tyX1_ok nmX1 hown hK hP (dP hj f t) hS 43 rfl rfl 2 (by decide) lk9 (fun _ h9 => h9) rfl (by decide +kernel) rfl rfl (Nat.le_of_ble_eq_true rfl) dX1_asThief_9 (fun H locs hP _ hS => ?_)
  have hP := sP_43_2 et1 hP
  refine lv_aload_n hx hb dX1_asThief_12 rfl (lv_at hl 0 rfl) ?_
  refine lv_iload_n hx hb dX1_asThief_13 rfl (lv_at hl 1 rfl) ?_
  obtain ⟨y2, t3, hq4, hf⟩ := bi2_out hf
  refine cw_vi (As := [.int x1]) (rest := []) ⟨hx, hb, hml, hown, hts⟩ xP_S hK hX0 hS hP (c_X1_asLeaper hj l x1 f t1 y2 t3 hq4) (cwV 1 hts gX1_asThief_X1_asLeaper rfl rfl rfl (by decide +kernel) ⟨Nat.le_trans (Nat.le_of_ble_eq_true rfl) hR.1, Nat.le_trans (Nat.le_of_ble_eq_true rfl) hR.2⟩) (va_recv hK hP (ci := 1) (q0 := 43) rfl rfl) rfl hl.1 rfl (Nat.le_of_ble_eq_true rfl) ⟨Nat.zero_le _, Nat.zero_le _⟩ dX1_asThief_14 (fun H locs hP hS => ?_)
  refine lv_iload_n hx hb dX1_asThief_17 rfl (lv_at hl 1 rfl) ?_
  refine lv_iadd hx hb dX1_asThief_18 ?_
  obtain ⟨rfl, rfl⟩ := Prod.mk.inj (Option.some.inj hf)
  exact kr H locs ls 19 dX1_asThief_19 hP hS
set_option maxHeartbeats 4000000 in
set_option maxRecDepth 100000 in
theorem c_X1_asThief (hj : jP ad) (l : Launch) (x1 : Int32) (f : mM) (t : Int64) (r : Int32) (tR : Int64) (hf : q_X1_asThief x1 f t = some (r, tR)) : Met l yX1_asThief wsX1_asThief ({ frames := 2, cells := 0, slots := 0, locals := 42 }) (va_Pc ([.ref (ad 43), .int x1]) (pre D cy (wP ad cy) (xP ad sk sv) f t)) (va_Qi (fun (r2 : Int32) (u : mM × Int64) => r2 = r ∧ u = (f, tR)) (atW D (wP ad cy)) (aP ad)) 0 0 (aP ad) := by
  refine Met.ofW (cc := cX1_asThief) (maxL := 2) (ret := (some .int)) (by decide) rfl ?_
  intro p e s m args below meth c s₁ B hml hv
  obtain ⟨rfl, hP, hK, hX0⟩ := hv
  have hl := lv_entry ([.ref (ad 43), .int x1]) (n := 2) (Nat.le_of_ble_eq_true rfl)
  rw [lg_entry_eq]
  generalize (lg_sl ([.ref (ad 43), .int x1]) ++ List.replicate (2 - (lg_sl ([.ref (ad 43), .int x1])).length) Slot.unset).toArray = ls at hl ⊢
  have hlocks := B.notSynchronized
  exact b_X1_asThief ⟨B.exec, B.bytes, B.returns, hml, findClass_of_methodNamed B.named, atoms_spec (ws := wsX1_asThief) B.pre, hlocks, hK, hX0⟩ hj ⟨Nat.le_refl _, Nat.le_refl _⟩ x1 f t r tR hf (fun H locs ls pc hd hP hS => W.iret B.exec B.bytes B.returns (fun t2 ht hW => ⟨⟨r, (f, tR), rfl, ⟨rfl, rfl⟩, by show va_P D vwCl _ t2.heap; rw [ht]; exact hP⟩, hS.F ht⟩) hS.2.2 hd) s.heap [] ls hP va_S.rf hl
def q_X1_asBride (x1 : Int32) (f : mM) (t : Int64) : Option (Int32 × Int64) := sq ((t + 100000)) (fun t1 => bi2 (q_X1_asPerson x1 f t1) (fun y2 t3 => some ((y2 + (f 23 3)), t3)))
set_option maxHeartbeats 4000000 in
set_option maxRecDepth 100000 in
theorem b_X1_asBride (C0 : cX p s m args meth c cX1_asBride 2 (some .int) RX1 wsX1_asBride D cy (xP ad sk sv)) (hj : jP ad) (hR : 1 ≤ R.frames ∧ 21 ≤ R.locals) (x1 : Int32) (f : mM) (t : Int64) (r : Int32) (tR : Int64) (hf : q_X1_asBride x1 f t = some (r, tR)) (kr : ∀ (H : Heap) (locs : List Loc) (ls : Array Slot) (pc : Nat), decode cX1_asBride pc = .ok (.ireturn, 1) → va_P D vwCl (wP ad cy f tR) H → va_S (aP ad) s.heap H locs → W p l e R s m args below meth c H locs 0 0 Q (F0 m pc ls [.int r])) (H : Heap) (locs : List Loc) (ls : Array Slot) (hP : va_P D vwCl (wP ad cy f t) H) (hS : va_S (aP ad) s.heap H locs) (hl : lv_has ls 2 [(0, .ref (ad 43)), (1, .int x1)]) : W p l e R s m args below meth c H locs 0 0 Q (F0 m 0 ls []) := by
  obtain ⟨hx, hb, hr, hml, hown, hts, hlocks, hK, hX0⟩ := id C0
  have lk9 := hts (.fieldLink RX1 9 "PlankNine$Kinds" "traced" "J") (List.mem_of_getElem? (i := 1) rfl)
  have hiX1 : ∀ w ∈ u_ws RX1 TX1 3, w ∈ wsX1_asBride := fun w h => List.mem_cons_of_mem _ (List.mem_append_left _ (List.mem_append_left _ (List.mem_append_right _ h)))
  have lk19 := hts (.fieldLink RX1 19 "PlankNine$Kinds" "now" "LPlankNine$Now;") (List.mem_of_getElem? (i := 3) rfl)
  have ln67 := nlF_46 (args := args) hX0
  have hiX3 : ∀ w ∈ u_ws RX3 TX3 4, w ∈ wsX1_asBride := fun w h => List.mem_cons_of_mem _ (List.mem_append_left _ (List.mem_append_right _ h))
  unfold q_X1_asBride at hf
  refine lv_aload_n hx hb dX1_asBride_0 rfl (lv_at hl 0 rfl) ?_
  refine lv_dup hx hb dX1_asBride_1 rfl ?_
  refine va_get (D := D) (ci := 1) (v := .long t) (C := RX1) (T := TX1) (N := 3) hx hb hts hiX1 hown hK hP 43 rfl rfl 2 (by decide) lk9 (fun _ h9 => h9) rfl dX1_asBride_2 ?_
  refine lv_ldc2 (v := 100000) hx hb hown (hts (.constantLong RX1 65 (100000)) (List.mem_of_getElem? (i := 2) rfl)) dX1_asBride_5 ?_
  refine lv_ladd hx hb dX1_asBride_8 ?_
  obtain ⟨t1, et1, hf⟩ := sq_out hf
  refine va_put (D := D) (ci := 1) (v := .long (t + 100000)) (ty := .long) (C := RX1) (T := TX1) (N := 3) hx hb hts hiX1 tyX1 tyX1_ok nmX1 hown hK hP (dP hj f t) hS 43 rfl rfl 2 (by decide) lk9 (fun _ h9 => h9) rfl (by decide +kernel) rfl rfl (Nat.le_of_ble_eq_true rfl) dX1_asBride_9 (fun H locs hP _ hS => ?_)
  have hP := sP_43_2 et1 hP
  refine lv_aload_n hx hb dX1_asBride_12 rfl (lv_at hl 0 rfl) ?_
  refine lv_iload_n hx hb dX1_asBride_13 rfl (lv_at hl 1 rfl) ?_
  obtain ⟨y2, t3, hq4, hf⟩ := bi2_out hf
  refine cw_vi (As := [.int x1]) (rest := []) ⟨hx, hb, hml, hown, hts⟩ xP_S hK hX0 hS hP (c_X1_asPerson hj l x1 f t1 y2 t3 hq4) (cwV 1 hts gX1_asBride_X1_asPerson rfl rfl rfl (by decide +kernel) ⟨Nat.le_trans (Nat.le_of_ble_eq_true rfl) hR.1, Nat.le_trans (Nat.le_of_ble_eq_true rfl) hR.2⟩) (va_recv hK hP (ci := 1) (q0 := 43) rfl rfl) rfl hl.1 rfl (Nat.le_of_ble_eq_true rfl) ⟨Nat.zero_le _, Nat.zero_le _⟩ dX1_asBride_14 (fun H locs hP hS => ?_)
  refine lv_aload_n hx hb dX1_asBride_17 rfl (lv_at hl 0 rfl) ?_
  refine va_get (D := D) (ci := 1) (v := .ref (ad 23)) (C := RX1) (T := TX1) (N := 3) hx hb hts hiX1 hown hK hP 43 rfl rfl 1 (by decide) lk19 (fun _ h9 => h9) rfl dX1_asBride_18 ?_
  refine va_getN (D := D) (ci := 3) (v := .int (f 23 3)) (C := RX3) (T := TX3) (N := 4) hx hb hts hiX3 hown hK hP 23 rfl rfl 3 (by decide) ln67 (fun _ h9 => h9) rfl dX1_asBride_21 ?_
  refine lv_iadd hx hb dX1_asBride_24 ?_
  obtain ⟨rfl, rfl⟩ := Prod.mk.inj (Option.some.inj hf)
  exact kr H locs ls 25 dX1_asBride_25 hP hS
set_option maxHeartbeats 4000000 in
set_option maxRecDepth 100000 in
theorem c_X1_asBride (hj : jP ad) (l : Launch) (x1 : Int32) (f : mM) (t : Int64) (r : Int32) (tR : Int64) (hf : q_X1_asBride x1 f t = some (r, tR)) : Met l yX1_asBride wsX1_asBride ({ frames := 1, cells := 0, slots := 0, locals := 21 }) (va_Pc ([.ref (ad 43), .int x1]) (pre D cy (wP ad cy) (xP ad sk sv) f t)) (va_Qi (fun (r2 : Int32) (u : mM × Int64) => r2 = r ∧ u = (f, tR)) (atW D (wP ad cy)) (aP ad)) 0 0 (aP ad) := by
  refine Met.ofW (cc := cX1_asBride) (maxL := 2) (ret := (some .int)) (by decide) rfl ?_
  intro p e s m args below meth c s₁ B hml hv
  obtain ⟨rfl, hP, hK, hX0⟩ := hv
  have hl := lv_entry ([.ref (ad 43), .int x1]) (n := 2) (Nat.le_of_ble_eq_true rfl)
  rw [lg_entry_eq]
  generalize (lg_sl ([.ref (ad 43), .int x1]) ++ List.replicate (2 - (lg_sl ([.ref (ad 43), .int x1])).length) Slot.unset).toArray = ls at hl ⊢
  have hlocks := B.notSynchronized
  exact b_X1_asBride ⟨B.exec, B.bytes, B.returns, hml, findClass_of_methodNamed B.named, atoms_spec (ws := wsX1_asBride) B.pre, hlocks, hK, hX0⟩ hj ⟨Nat.le_refl _, Nat.le_refl _⟩ x1 f t r tR hf (fun H locs ls pc hd hP hS => W.iret B.exec B.bytes B.returns (fun t2 ht hW => ⟨⟨r, (f, tR), rfl, ⟨rfl, rfl⟩, by show va_P D vwCl _ t2.heap; rw [ht]; exact hP⟩, hS.F ht⟩) hS.2.2 hd) s.heap [] ls hP va_S.rf hl
def q_X1_rateAs (N : Nat) (x1 : Int32) (x2 : Int32) (f : mM) (t : Int64) : Option (Int32 × Int64) := if x1 = 0 then bi2 (q_X1_asPerson x2 f t) (fun y1 t2 => some (y1, t2)) else if x1 = 1 then bi2 (q_X1_asFarmer N x2 f t) (fun y4 t5 => some (y4, t5)) else if x1 = 2 then bi2 (q_X1_asLeaper x2 f t) (fun y7 t8 => some (y7, t8)) else if x1 = 3 then bi2 (q_X1_asCarter N x2 f t) (fun y10 t11 => some (y10, t11)) else if x1 = 4 then bi2 (q_X1_asThief x2 f t) (fun y13 t14 => some (y13, t14)) else if x1 = 5 then bi2 (q_X1_asBride x2 f t) (fun y16 t17 => some (y16, t17)) else some ((-1000000), t)
set_option maxHeartbeats 4000000 in
set_option maxRecDepth 100000 in
theorem b_X1_rateAs (C0 : cX p s m args meth c cX1_rateAs 3 (some .int) RX1 wsX1_rateAs D cy (xP ad sk sv)) (hj : jP ad) (hR : 3 ≤ R.frames ∧ 65 ≤ R.locals) (N : Nat) (x1 : Int32) (x2 : Int32) (f : mM) (t : Int64) (r : Int32) (tR : Int64) (hf : q_X1_rateAs N x1 x2 f t = some (r, tR)) (kr : ∀ (H : Heap) (locs : List Loc) (ls : Array Slot) (pc : Nat), decode cX1_rateAs pc = .ok (.ireturn, 1) → va_P D vwCl (wP ad cy f tR) H → va_S (aP ad) s.heap H locs → W p l e R s m args below meth c H locs 0 0 Q (F0 m pc ls [.int r])) (H : Heap) (locs : List Loc) (ls : Array Slot) (hP : va_P D vwCl (wP ad cy f t) H) (hS : va_S (aP ad) s.heap H locs) (hl : lv_has ls 3 [(0, .ref (ad 43)), (1, .int x1), (2, .int x2)]) : W p l e R s m args below meth c H locs 0 0 Q (F0 m 0 ls []) := by
  obtain ⟨hx, hb, hr, hml, hown, hts, hlocks, hK, hX0⟩ := id C0
  unfold q_X1_rateAs at hf
  refine lv_iload_n hx hb dX1_rateAs_0 rfl (lv_at hl 1 rfl) ?_
  by_cases c1_0 : x1 = 0
  · have hf := itT hf c1_0
    refine lv_tableIn (tgt := 40) hx hb dX1_rateAs_1 (by rw [c1_0]; decide) (by rw [c1_0]; decide) (by rw [c1_0]; rfl) (by decide) ?_
    refine lv_aload_n hx hb dX1_rateAs_40 rfl (lv_at hl 0 rfl) ?_
    refine lv_iload_n hx hb dX1_rateAs_41 rfl (lv_at hl 2 rfl) ?_
    obtain ⟨y1, t2, hq3, hf⟩ := bi2_out hf
    refine cw_vi (As := [.int x2]) (rest := []) ⟨hx, hb, hml, hown, hts⟩ xP_S hK hX0 hS hP (c_X1_asPerson hj l x2 f t y1 t2 hq3) (cwV 1 hts gX1_rateAs_X1_asPerson rfl rfl rfl (by decide +kernel) ⟨Nat.le_trans (Nat.le_of_ble_eq_true rfl) hR.1, Nat.le_trans (Nat.le_of_ble_eq_true rfl) hR.2⟩) (va_recv hK hP (ci := 1) (q0 := 43) rfl rfl) rfl hl.1 rfl (Nat.le_of_ble_eq_true rfl) ⟨Nat.zero_le _, Nat.zero_le _⟩ dX1_rateAs_42 (fun H locs hP hS => ?_)
    obtain ⟨rfl, rfl⟩ := Prod.mk.inj (Option.some.inj hf)
    exact kr H locs ls 45 dX1_rateAs_45 hP hS
  have hf := itF hf c1_0
  by_cases c1_1 : x1 = 1
  · have hf := itT hf c1_1
    refine lv_tableIn (tgt := 46) hx hb dX1_rateAs_1 (by rw [c1_1]; decide) (by rw [c1_1]; decide) (by rw [c1_1]; rfl) (by decide) ?_
    refine lv_aload_n hx hb dX1_rateAs_46 rfl (lv_at hl 0 rfl) ?_
    refine lv_iload_n hx hb dX1_rateAs_47 rfl (lv_at hl 2 rfl) ?_
    obtain ⟨y4, t5, hq6, hf⟩ := bi2_out hf
    refine cw_vi (As := [.int x2]) (rest := []) ⟨hx, hb, hml, hown, hts⟩ xP_S hK hX0 hS hP (c_X1_asFarmer hj l N x2 f t y4 t5 hq6) (cwV 1 hts gX1_rateAs_X1_asFarmer rfl rfl rfl (by decide +kernel) ⟨Nat.le_trans (Nat.le_of_ble_eq_true rfl) hR.1, Nat.le_trans (Nat.le_of_ble_eq_true rfl) hR.2⟩) (va_recv hK hP (ci := 1) (q0 := 43) rfl rfl) rfl hl.1 rfl (Nat.le_of_ble_eq_true rfl) ⟨Nat.zero_le _, Nat.zero_le _⟩ dX1_rateAs_48 (fun H locs hP hS => ?_)
    obtain ⟨rfl, rfl⟩ := Prod.mk.inj (Option.some.inj hf)
    exact kr H locs ls 51 dX1_rateAs_51 hP hS
  have hf := itF hf c1_1
  by_cases c1_2 : x1 = 2
  · have hf := itT hf c1_2
    refine lv_tableIn (tgt := 52) hx hb dX1_rateAs_1 (by rw [c1_2]; decide) (by rw [c1_2]; decide) (by rw [c1_2]; rfl) (by decide) ?_
    refine lv_aload_n hx hb dX1_rateAs_52 rfl (lv_at hl 0 rfl) ?_
    refine lv_iload_n hx hb dX1_rateAs_53 rfl (lv_at hl 2 rfl) ?_
    obtain ⟨y7, t8, hq9, hf⟩ := bi2_out hf
    refine cw_vi (As := [.int x2]) (rest := []) ⟨hx, hb, hml, hown, hts⟩ xP_S hK hX0 hS hP (c_X1_asLeaper hj l x2 f t y7 t8 hq9) (cwV 1 hts gX1_rateAs_X1_asLeaper rfl rfl rfl (by decide +kernel) ⟨Nat.le_trans (Nat.le_of_ble_eq_true rfl) hR.1, Nat.le_trans (Nat.le_of_ble_eq_true rfl) hR.2⟩) (va_recv hK hP (ci := 1) (q0 := 43) rfl rfl) rfl hl.1 rfl (Nat.le_of_ble_eq_true rfl) ⟨Nat.zero_le _, Nat.zero_le _⟩ dX1_rateAs_54 (fun H locs hP hS => ?_)
    obtain ⟨rfl, rfl⟩ := Prod.mk.inj (Option.some.inj hf)
    exact kr H locs ls 57 dX1_rateAs_57 hP hS
  have hf := itF hf c1_2
  by_cases c1_3 : x1 = 3
  · have hf := itT hf c1_3
    refine lv_tableIn (tgt := 58) hx hb dX1_rateAs_1 (by rw [c1_3]; decide) (by rw [c1_3]; decide) (by rw [c1_3]; rfl) (by decide) ?_
    refine lv_aload_n hx hb dX1_rateAs_58 rfl (lv_at hl 0 rfl) ?_
    refine lv_iload_n hx hb dX1_rateAs_59 rfl (lv_at hl 2 rfl) ?_
    obtain ⟨y10, t11, hq12, hf⟩ := bi2_out hf
    refine cw_vi (As := [.int x2]) (rest := []) ⟨hx, hb, hml, hown, hts⟩ xP_S hK hX0 hS hP (c_X1_asCarter hj l N x2 f t y10 t11 hq12) (cwV 1 hts gX1_rateAs_X1_asCarter rfl rfl rfl (by decide +kernel) ⟨Nat.le_trans (Nat.le_of_ble_eq_true rfl) hR.1, Nat.le_trans (Nat.le_of_ble_eq_true rfl) hR.2⟩) (va_recv hK hP (ci := 1) (q0 := 43) rfl rfl) rfl hl.1 rfl (Nat.le_of_ble_eq_true rfl) ⟨Nat.zero_le _, Nat.zero_le _⟩ dX1_rateAs_60 (fun H locs hP hS => ?_)
    obtain ⟨rfl, rfl⟩ := Prod.mk.inj (Option.some.inj hf)
    exact kr H locs ls 63 dX1_rateAs_63 hP hS
  have hf := itF hf c1_3
  by_cases c1_4 : x1 = 4
  · have hf := itT hf c1_4
    refine lv_tableIn (tgt := 64) hx hb dX1_rateAs_1 (by rw [c1_4]; decide) (by rw [c1_4]; decide) (by rw [c1_4]; rfl) (by decide) ?_
    refine lv_aload_n hx hb dX1_rateAs_64 rfl (lv_at hl 0 rfl) ?_
    refine lv_iload_n hx hb dX1_rateAs_65 rfl (lv_at hl 2 rfl) ?_
    obtain ⟨y13, t14, hq15, hf⟩ := bi2_out hf
    refine cw_vi (As := [.int x2]) (rest := []) ⟨hx, hb, hml, hown, hts⟩ xP_S hK hX0 hS hP (c_X1_asThief hj l x2 f t y13 t14 hq15) (cwV 1 hts gX1_rateAs_X1_asThief rfl rfl rfl (by decide +kernel) ⟨Nat.le_trans (Nat.le_of_ble_eq_true rfl) hR.1, Nat.le_trans (Nat.le_of_ble_eq_true rfl) hR.2⟩) (va_recv hK hP (ci := 1) (q0 := 43) rfl rfl) rfl hl.1 rfl (Nat.le_of_ble_eq_true rfl) ⟨Nat.zero_le _, Nat.zero_le _⟩ dX1_rateAs_66 (fun H locs hP hS => ?_)
    obtain ⟨rfl, rfl⟩ := Prod.mk.inj (Option.some.inj hf)
    exact kr H locs ls 69 dX1_rateAs_69 hP hS
  have hf := itF hf c1_4
  by_cases c1_5 : x1 = 5
  · have hf := itT hf c1_5
    refine lv_tableIn (tgt := 70) hx hb dX1_rateAs_1 (by rw [c1_5]; decide) (by rw [c1_5]; decide) (by rw [c1_5]; rfl) (by decide) ?_
    refine lv_aload_n hx hb dX1_rateAs_70 rfl (lv_at hl 0 rfl) ?_
    refine lv_iload_n hx hb dX1_rateAs_71 rfl (lv_at hl 2 rfl) ?_
    obtain ⟨y16, t17, hq18, hf⟩ := bi2_out hf
    refine cw_vi (As := [.int x2]) (rest := []) ⟨hx, hb, hml, hown, hts⟩ xP_S hK hX0 hS hP (c_X1_asBride hj l x2 f t y16 t17 hq18) (cwV 1 hts gX1_rateAs_X1_asBride rfl rfl rfl (by decide +kernel) ⟨Nat.le_trans (Nat.le_of_ble_eq_true rfl) hR.1, Nat.le_trans (Nat.le_of_ble_eq_true rfl) hR.2⟩) (va_recv hK hP (ci := 1) (q0 := 43) rfl rfl) rfl hl.1 rfl (Nat.le_of_ble_eq_true rfl) ⟨Nat.zero_le _, Nat.zero_le _⟩ dX1_rateAs_72 (fun H locs hP hS => ?_)
    obtain ⟨rfl, rfl⟩ := Prod.mk.inj (Option.some.inj hf)
    exact kr H locs ls 75 dX1_rateAs_75 hP hS
  have hf := itF hf c1_5
  refine lv_tableOut (tgt := 76) hx hb dX1_rateAs_1 (by have h0 := lv_neT c1_0 (a := 0) rfl; have h1 := lv_neT c1_1 (a := 1) rfl; have h2 := lv_neT c1_2 (a := 2) rfl; have h3 := lv_neT c1_3 (a := 3) rfl; have h4 := lv_neT c1_4 (a := 4) rfl; have h5 := lv_neT c1_5 (a := 5) rfl; omega) (by decide) ?_
  refine lv_ldc (v := (-1000000)) hx hb hown (hts (.constant RX1 42 (-1000000)) (List.mem_of_getElem? (i := 1) rfl)) dX1_rateAs_76 ?_
  obtain ⟨rfl, rfl⟩ := Prod.mk.inj (Option.some.inj hf)
  exact kr H locs ls 78 dX1_rateAs_78 hP hS
set_option maxHeartbeats 4000000 in
set_option maxRecDepth 100000 in
theorem c_X1_rateAs (hj : jP ad) (l : Launch) (N : Nat) (x1 : Int32) (x2 : Int32) (f : mM) (t : Int64) (r : Int32) (tR : Int64) (hf : q_X1_rateAs N x1 x2 f t = some (r, tR)) : Met l yX1_rateAs wsX1_rateAs ({ frames := 3, cells := 0, slots := 0, locals := 65 }) (va_Pc ([.ref (ad 43), .int x1, .int x2]) (pre D cy (wP ad cy) (xP ad sk sv) f t)) (va_Qi (fun (r2 : Int32) (u : mM × Int64) => r2 = r ∧ u = (f, tR)) (atW D (wP ad cy)) (aP ad)) 0 0 (aP ad) := by
  refine Met.ofW (cc := cX1_rateAs) (maxL := 3) (ret := (some .int)) (by decide) rfl ?_
  intro p e s m args below meth c s₁ B hml hv
  obtain ⟨rfl, hP, hK, hX0⟩ := hv
  have hl := lv_entry ([.ref (ad 43), .int x1, .int x2]) (n := 3) (Nat.le_of_ble_eq_true rfl)
  rw [lg_entry_eq]
  generalize (lg_sl ([.ref (ad 43), .int x1, .int x2]) ++ List.replicate (3 - (lg_sl ([.ref (ad 43), .int x1, .int x2])).length) Slot.unset).toArray = ls at hl ⊢
  have hlocks := B.notSynchronized
  exact b_X1_rateAs ⟨B.exec, B.bytes, B.returns, hml, findClass_of_methodNamed B.named, atoms_spec (ws := wsX1_rateAs) B.pre, hlocks, hK, hX0⟩ hj ⟨Nat.le_refl _, Nat.le_refl _⟩ N x1 x2 f t r tR hf (fun H locs ls pc hd hP hS => W.iret B.exec B.bytes B.returns (fun t2 ht hW => ⟨⟨r, (f, tR), rfl, ⟨rfl, rfl⟩, by show va_P D vwCl _ t2.heap; rw [ht]; exact hP⟩, hS.F ht⟩) hS.2.2 hd) s.heap [] ls hP va_S.rf hl
