variable {p : Program} {l : Launch} {e : Env} {D : va_G} {cy : Nat → ClassId}
/-- what a constructor needs of the tables -/
def xC : State → Prop := fun U => nP nFs nMs U ∧ va_AO "PlankNine$Now" U
theorem xC.warm {s U : State} (hW : s.WarmedH U.vm) (h : xC s) : xC U := ⟨nP.warm hW h.1, va_AO.moved hW.alike h.2⟩
theorem xC.call {U : State} {g : JFrame} {mk : MethodId} {a : Array Value} (h : xC U) : xC (U.calling g mk a) := ⟨nP.same (s := U) rfl h.1, va_AO.moved (u := U) (Vm.Alike.refl U.vm) h.2⟩
theorem ra_int {s : State} {c d : ClassId} (h1 : va_RA s c .int) (h2 : va_RA s d .int) : c = d := by
  have h3 : s.vm.findClass _ = some c := h1
  have h4 : s.vm.findClass _ = some d := h2
  exact Option.some.inj (h3.symm.trans h4)
theorem ra_byte {s : State} {c d : ClassId} (h1 : va_RA s c .byte) (h2 : va_RA s d .byte) : c = d := by
  have h3 : s.vm.findClass _ = some c := h1
  have h4 : s.vm.findClass _ = some d := h2
  exact Option.some.inj (h3.symm.trans h4)
theorem ra_boolean {s : State} {c d : ClassId} (h1 : va_RA s c .boolean) (h2 : va_RA s d .boolean) : c = d := by
  have h3 : s.vm.findClass _ = some c := h1
  have h4 : s.vm.findClass _ = some d := h2
  exact Option.some.inj (h3.symm.trans h4)
theorem ra_obj {s : State} {C : String} {c d : ClassId} (h1 : va_RA s c (.object C)) (h2 : va_RA s d (.object C)) : c = d := by
  obtain ⟨_, _, -, -, -, h3⟩ := h1
  obtain ⟨_, _, -, -, -, h4⟩ := h2
  exact Option.some.inj (h3.symm.trans h4)
def preC (D : va_G) (cy : Nat → ClassId) (sz : Nat) (ws : va_W) : State → Prop := fun U => U.heap.size = sz ∧ va_P D vwCl ws U.heap ∧ va_K D vwCl (tyA cy) U ∧ xC U ∧ va_D (fun _ => True) ws
theorem preC_blind {sz : Nat} {ws : va_W} {av : List Value} : FrameBlind (va_Pc av (preC D cy sz ws)) := fun a U g mk q => by
  obtain ⟨q0, q1, qP, qK, qX, qD⟩ := q
  exact ⟨q0, q1, qP, va_K.moved (u := U) (U := U.calling g mk a) (Vm.Alike.refl U.vm) qK, qX.call, qD⟩
theorem preC_go {s : State} {H : Heap} {A : Nat → Prop} {ws : va_W} (hK : va_K D vwCl (tyA cy) s) (hx : xC s) (hP : va_P D vwCl ws H) (hD : va_D A ws) (av : List Value) : ∀ U : State, U.heap = H → s.WarmedH U.vm → va_Pc av (preC D cy H.size ws) av.toArray U := fun U hU hW => ⟨rfl, by rw [hU], by rw [hU]; exact hP, va_K.moved hW.alike hK, hx.warm hW, hD.weaken (fun _ _ _ _ => trivial)⟩
theorem nlMC_0 {s : State} (h : xC s) : va_Nw (.methodLinkNest RX9 11 ⟨"PlankNine$Text", "<init>", "()V"⟩ "PlankNine") s := h.1.2 ("PlankNine", 11, ⟨"PlankNine$Text", "<init>", "()V"⟩, "PlankNine") (List.mem_of_getElem? (l := nMs) (i := 0) rfl)
theorem nlMC_1 {s : State} (h : xC s) : va_Nw (.methodLinkNest RX9 18 ⟨"PlankNine$Marsh", "<init>", "()V"⟩ "PlankNine") s := h.1.2 ("PlankNine", 18, ⟨"PlankNine$Marsh", "<init>", "()V"⟩, "PlankNine") (List.mem_of_getElem? (l := nMs) (i := 1) rfl)
theorem nlMC_2 {s : State} (h : xC s) : va_Nw (.methodLinkNest RX4 11 ⟨"PlankNine$Marsh", "<init>", "()V"⟩ "PlankNine") s := h.1.2 ("PlankNine$Reader", 11, ⟨"PlankNine$Marsh", "<init>", "()V"⟩, "PlankNine") (List.mem_of_getElem? (l := nMs) (i := 2) rfl)
theorem nlMC_3 {s : State} (h : xC s) : va_Nw (.methodLinkNest RX9 34 ⟨"PlankNine$Now", "<init>", "()V"⟩ "PlankNine") s := h.1.2 ("PlankNine", 34, ⟨"PlankNine$Now", "<init>", "()V"⟩, "PlankNine") (List.mem_of_getElem? (l := nMs) (i := 3) rfl)
theorem nlMC_4 {s : State} (h : xC s) : va_Nw (.methodLinkNest RX4 88 ⟨"PlankNine", "isWithin", "(III)Z"⟩ "PlankNine") s := h.1.2 ("PlankNine$Reader", 88, ⟨"PlankNine", "isWithin", "(III)Z"⟩, "PlankNine") (List.mem_of_getElem? (l := nMs) (i := 4) rfl)
theorem nlMC_5 {s : State} (h : xC s) : va_Nw (.methodLinkNest RX2 55 ⟨"PlankNine", "isIn", "(II)Z"⟩ "PlankNine") s := h.1.2 ("PlankNine$Marsh", 55, ⟨"PlankNine", "isIn", "(II)Z"⟩, "PlankNine") (List.mem_of_getElem? (l := nMs) (i := 5) rfl)
theorem nlMC_6 {s : State} (h : xC s) : va_Nw (.methodLinkNest RX0 37 ⟨"PlankNine", "isIn", "(II)Z"⟩ "PlankNine") s := h.1.2 ("PlankNine$Cuts", 37, ⟨"PlankNine", "isIn", "(II)Z"⟩, "PlankNine") (List.mem_of_getElem? (l := nMs) (i := 6) rfl)
set_option maxHeartbeats 4000000 in
set_option maxRecDepth 100000 in
theorem c_X7_init (l : Launch) (h0 sz : Nat) : Met l yX7_init wsX7_init ({ frames := 1, cells := 1, slots := 300, locals := 12 }) (va_Pc ([.ref h0]) (preC D cy sz [(h0, .inr (7, [.null, .int 0]))])) (va_Qv (fun _ : Unit => True) (fun _ t => ∃ (q1 : Nat), va_P D vwCl [(h0, .inr (7, [.ref q1, .int 0])), (q1, .inl (cy 0, 300, .inl (fun _ => 0)))] t.heap ∧ va_D (va_A [(h0, .inr (7, [.null, .int 0]))] sz) [(h0, .inr (7, [.ref q1, .int 0])), (q1, .inl (cy 0, 300, .inl (fun _ => 0)))]) (va_A [(h0, .inr (7, [.null, .int 0]))] sz)) 1 300 (va_A [(h0, .inr (7, [.null, .int 0]))] sz) := by
  refine Met.ofW (cc := cX7_init) (maxL := 1) (ret := none) (by decide) rfl ?_
  intro p e s m args below meth c s₁ B hml hv
  obtain ⟨rfl, hsz, hP, hK, hX0, hD0⟩ := hv
  have hx := B.exec
  have hb := B.bytes
  have hr := B.returns
  have hts := atoms_spec (ws := wsX7_init) B.pre
  have hown : s.vm.findClass RX7 = some m.cls := findClass_of_methodNamed B.named
  have hlocks := B.notSynchronized
  have hin : meth.name = "<init>" := (name_of_methodNamed B.named B.method).1
  subst hsz
  have hD := hD0.self (sz := s.heap.size)
  generalize hAe : va_A [(h0, .inr (7, [.null, .int 0]))] s.heap.size = A at hD ⊢
  have hA : ∀ q : Nat, s.heap.size ≤ q → A q := fun q h => by rw [← hAe]; exact Or.inr h
  have hS : va_S A s.heap s.heap [] := va_S.rf
  have hl := lv_entry ([.ref h0]) (n := 1) (Nat.le_of_ble_eq_true rfl)
  rw [lg_entry_eq]
  generalize (lg_sl ([.ref h0]) ++ List.replicate (1 - (lg_sl ([.ref h0])).length) Slot.unset).toArray = ls at hl ⊢
  have hl : lv_has ls 1 [(0, .ref h0)] := hl
  refine lv_aload_n hx hb dX7_init_0 rfl (lv_at hl 0 rfl) ?_
  refine W.objInit hx hb hown (hts (.methodLink RX7 3 objectInit) (List.mem_of_getElem? (i := 1) rfl)) (hts (.instanceMethod objectInit) (List.mem_of_getElem? (i := 2) rfl)) (hts (.code objectInit ⟨#[0xb1]⟩ 1 none) (List.mem_of_getElem? (i := 3) rfl)) rfl (by rw [hml]; exact hl.1) rfl dX7_init_1 (Nat.le_of_ble_eq_true rfl) (Nat.le_of_ble_eq_true rfl) ?_
  refine W.eq (g2 := F0 m 4 ls []) rfl ?_
  refine lv_aload_n hx hb dX7_init_4 rfl (lv_at hl 0 rfl) ?_
  refine lv_sipush (v := 300) hx hb dX7_init_5 (by decide) ?_
  refine va_newa (atype := .byte) (ty := .byte) (N' := 300) (n := 300) (a0 := (300, .inl (fun _ => 0))) hx hb (hts (.arrayClass .byte) (List.mem_of_getElem? (i := 4) rfl)) rfl hK hP hD hS hA (fun _ => rfl) (by decide) (by decide) (by decide) (Nat.le_of_ble_eq_true rfl) (Nat.le_of_ble_eq_true rfl) dX7_init_8 (fun q1 c2 H hKn hP hD hS => ?_)
  obtain rfl : c2 = cy 0 := ra_byte (hKn.2 4 (c2, .byte) rfl).2 (hK.2 0 (cy 0, .byte) rfl).2
  have hP : va_P D vwCl [(h0, .inr (7, [.null, .int 0])), (q1, .inl (cy 0, 300, .inl (fun _ => 0)))] H := hP
  have hD : va_D A [(h0, .inr (7, [.null, .int 0])), (q1, .inl (cy 0, 300, .inl (fun _ => 0)))] := hD
  refine va_putF (D := D) (ci := 7) (v := .ref q1) (ty := .array .byte) (C := RX7) (T := TX7) (N := 2) hx hb hts (fun w h => List.mem_cons_of_mem _ (List.mem_append_right _ h)) tyX7 tyX7_ok nmX7 hown hK hP hD hS 0 rfl rfl 0 (by decide) (hts (.fieldLink RX7 9 "PlankNine$Text" "bytes" "[B") (List.mem_of_getElem? (i := 5) rfl)) (fun _ h9 => h9) rfl hin rfl (by decide +kernel) rfl rfl (Nat.le_of_ble_eq_true rfl) dX7_init_10 (fun H locs hP hD hS => ?_)
  have hP : va_P D vwCl [(h0, .inr (7, [.ref q1, .int 0])), (q1, .inl (cy 0, 300, .inl (fun _ => 0)))] H := hP
  have hD : va_D A [(h0, .inr (7, [.ref q1, .int 0])), (q1, .inl (cy 0, 300, .inl (fun _ => 0)))] := hD
  refine lv_aload_n hx hb dX7_init_13 rfl (lv_at hl 0 rfl) ?_
  refine lv_iconst (v := 0) hx hb dX7_init_14 (by decide) ?_
  refine va_put (D := D) (ci := 7) (v := .int 0) (ty := .int) (C := RX7) (T := TX7) (N := 2) hx hb hts (fun w h => List.mem_cons_of_mem _ (List.mem_append_right _ h)) tyX7 tyX7_ok nmX7 hown hK hP hD hS 0 rfl rfl 1 (by decide) (hts (.fieldLink RX7 15 "PlankNine$Text" "length" "I") (List.mem_of_getElem? (i := 6) rfl)) (fun _ h9 => h9) rfl (by decide +kernel) rfl rfl (Nat.le_of_ble_eq_true rfl) dX7_init_15 (fun H locs hP hD hS => ?_)
  have hP : va_P D vwCl [(h0, .inr (7, [.ref q1, .int 0])), (q1, .inl (cy 0, 300, .inl (fun _ => 0)))] H := hP
  have hD : va_D A [(h0, .inr (7, [.ref q1, .int 0])), (q1, .inl (cy 0, 300, .inl (fun _ => 0)))] := hD
  have hP9 := hP.sub (ws' := [(h0, .inr (7, [.ref q1, .int 0])), (q1, .inl (cy 0, 300, .inl (fun _ => 0)))]) [0, 1] rfl
  have hD9 := hD.sub (ws' := [(h0, .inr (7, [.ref q1, .int 0])), (q1, .inl (cy 0, 300, .inl (fun _ => 0)))]) [0, 1] (by decide) rfl
  exact W.vret hx hb hr (fun t ht hW => ⟨⟨(), rfl, trivial, q1, by rw [ht]; exact hP9, hD9⟩, hS.F ht⟩) hS.2.2 dX7_init_18
set_option maxHeartbeats 4000000 in
set_option maxRecDepth 100000 in
theorem c_X2_init (l : Launch) (h0 sz : Nat) : Met l yX2_init wsX2_init ({ frames := 1, cells := 8, slots := 44, locals := 12 }) (va_Pc ([.ref h0]) (preC D cy sz [(h0, .inr (2, [.int 0, .int 0, .int 0, .int 0, .null, .null, .null, .null, .null, .null, .null, .null]))])) (va_Qv (fun _ : Unit => True) (fun _ t => ∃ (q1 : Nat) (q3 : Nat) (q5 : Nat) (q7 : Nat) (q9 : Nat) (q11 : Nat) (q13 : Nat) (q15 : Nat), va_P D vwCl [(h0, .inr (2, [.int 4, .int 0, .int 0, .int 0, .ref q1, .ref q3, .ref q5, .ref q7, .ref q9, .ref q11, .ref q13, .ref q15])), (q1, .inl (cy 1, 9, .inl (fun _ => 0))), (q3, .inl (cy 1, 9, .inl (fun _ => 0))), (q5, .inl (cy 1, 9, .inl (fun _ => 0))), (q7, .inl (cy 1, 4, .inl (fun _ => 0))), (q9, .inl (cy 1, 4, .inl (fun _ => 0))), (q11, .inl (cy 1, 3, .inl (fun _ => 0))), (q13, .inl (cy 1, 3, .inl (fun _ => 0))), (q15, .inl (cy 1, 3, .inl (fun _ => 0)))] t.heap ∧ va_D (va_A [(h0, .inr (2, [.int 0, .int 0, .int 0, .int 0, .null, .null, .null, .null, .null, .null, .null, .null]))] sz) [(h0, .inr (2, [.int 4, .int 0, .int 0, .int 0, .ref q1, .ref q3, .ref q5, .ref q7, .ref q9, .ref q11, .ref q13, .ref q15])), (q1, .inl (cy 1, 9, .inl (fun _ => 0))), (q3, .inl (cy 1, 9, .inl (fun _ => 0))), (q5, .inl (cy 1, 9, .inl (fun _ => 0))), (q7, .inl (cy 1, 4, .inl (fun _ => 0))), (q9, .inl (cy 1, 4, .inl (fun _ => 0))), (q11, .inl (cy 1, 3, .inl (fun _ => 0))), (q13, .inl (cy 1, 3, .inl (fun _ => 0))), (q15, .inl (cy 1, 3, .inl (fun _ => 0)))]) (va_A [(h0, .inr (2, [.int 0, .int 0, .int 0, .int 0, .null, .null, .null, .null, .null, .null, .null, .null]))] sz)) 8 44 (va_A [(h0, .inr (2, [.int 0, .int 0, .int 0, .int 0, .null, .null, .null, .null, .null, .null, .null, .null]))] sz) := by
  refine Met.ofW (cc := cX2_init) (maxL := 1) (ret := none) (by decide) rfl ?_
  intro p e s m args below meth c s₁ B hml hv
  obtain ⟨rfl, hsz, hP, hK, hX0, hD0⟩ := hv
  have hx := B.exec
  have hb := B.bytes
  have hr := B.returns
  have hts := atoms_spec (ws := wsX2_init) B.pre
  have hown : s.vm.findClass RX2 = some m.cls := findClass_of_methodNamed B.named
  have hlocks := B.notSynchronized
  have hin : meth.name = "<init>" := (name_of_methodNamed B.named B.method).1
  subst hsz
  have hD := hD0.self (sz := s.heap.size)
  generalize hAe : va_A [(h0, .inr (2, [.int 0, .int 0, .int 0, .int 0, .null, .null, .null, .null, .null, .null, .null, .null]))] s.heap.size = A at hD ⊢
  have hA : ∀ q : Nat, s.heap.size ≤ q → A q := fun q h => by rw [← hAe]; exact Or.inr h
  have hS : va_S A s.heap s.heap [] := va_S.rf
  have hl := lv_entry ([.ref h0]) (n := 1) (Nat.le_of_ble_eq_true rfl)
  rw [lg_entry_eq]
  generalize (lg_sl ([.ref h0]) ++ List.replicate (1 - (lg_sl ([.ref h0])).length) Slot.unset).toArray = ls at hl ⊢
  have hl : lv_has ls 1 [(0, .ref h0)] := hl
  refine lv_aload_n hx hb dX2_init_0 rfl (lv_at hl 0 rfl) ?_
  refine W.objInit hx hb hown (hts (.methodLink RX2 3 objectInit) (List.mem_of_getElem? (i := 1) rfl)) (hts (.instanceMethod objectInit) (List.mem_of_getElem? (i := 2) rfl)) (hts (.code objectInit ⟨#[0xb1]⟩ 1 none) (List.mem_of_getElem? (i := 3) rfl)) rfl (by rw [hml]; exact hl.1) rfl dX2_init_1 (Nat.le_of_ble_eq_true rfl) (Nat.le_of_ble_eq_true rfl) ?_
  refine W.eq (g2 := F0 m 4 ls []) rfl ?_
  refine lv_aload_n hx hb dX2_init_4 rfl (lv_at hl 0 rfl) ?_
  refine lv_iconst (v := 4) hx hb dX2_init_5 (by decide) ?_
  refine va_put (D := D) (ci := 2) (v := .int 4) (ty := .int) (C := RX2) (T := TX2) (N := 12) hx hb hts (fun w h => List.mem_cons_of_mem _ (List.mem_append_right _ h)) tyX2 tyX2_ok nmX2 hown hK hP hD hS 0 rfl rfl 0 (by decide) (hts (.fieldLink RX2 9 "PlankNine$Marsh" "places" "I") (List.mem_of_getElem? (i := 4) rfl)) (fun _ h9 => h9) rfl (by decide +kernel) rfl rfl (Nat.le_of_ble_eq_true rfl) dX2_init_6 (fun H locs hP hD hS => ?_)
  have hP : va_P D vwCl [(h0, .inr (2, [.int 4, .int 0, .int 0, .int 0, .null, .null, .null, .null, .null, .null, .null, .null]))] H := hP
  have hD : va_D A [(h0, .inr (2, [.int 4, .int 0, .int 0, .int 0, .null, .null, .null, .null, .null, .null, .null, .null]))] := hD
  refine lv_aload_n hx hb dX2_init_9 rfl (lv_at hl 0 rfl) ?_
  refine lv_iconst (v := 0) hx hb dX2_init_10 (by decide) ?_
  refine va_put (D := D) (ci := 2) (v := .int 0) (ty := .int) (C := RX2) (T := TX2) (N := 12) hx hb hts (fun w h => List.mem_cons_of_mem _ (List.mem_append_right _ h)) tyX2 tyX2_ok nmX2 hown hK hP hD hS 0 rfl rfl 1 (by decide) (hts (.fieldLink RX2 15 "PlankNine$Marsh" "planks" "I") (List.mem_of_getElem? (i := 5) rfl)) (fun _ h9 => h9) rfl (by decide +kernel) rfl rfl (Nat.le_of_ble_eq_true rfl) dX2_init_11 (fun H locs hP hD hS => ?_)
  have hP : va_P D vwCl [(h0, .inr (2, [.int 4, .int 0, .int 0, .int 0, .null, .null, .null, .null, .null, .null, .null, .null]))] H := hP
  have hD : va_D A [(h0, .inr (2, [.int 4, .int 0, .int 0, .int 0, .null, .null, .null, .null, .null, .null, .null, .null]))] := hD
  refine lv_aload_n hx hb dX2_init_14 rfl (lv_at hl 0 rfl) ?_
  refine lv_iconst (v := 0) hx hb dX2_init_15 (by decide) ?_
  refine va_put (D := D) (ci := 2) (v := .int 0) (ty := .int) (C := RX2) (T := TX2) (N := 12) hx hb hts (fun w h => List.mem_cons_of_mem _ (List.mem_append_right _ h)) tyX2 tyX2_ok nmX2 hown hK hP hD hS 0 rfl rfl 2 (by decide) (hts (.fieldLink RX2 18 "PlankNine$Marsh" "people" "I") (List.mem_of_getElem? (i := 6) rfl)) (fun _ h9 => h9) rfl (by decide +kernel) rfl rfl (Nat.le_of_ble_eq_true rfl) dX2_init_16 (fun H locs hP hD hS => ?_)
  have hP : va_P D vwCl [(h0, .inr (2, [.int 4, .int 0, .int 0, .int 0, .null, .null, .null, .null, .null, .null, .null, .null]))] H := hP
  have hD : va_D A [(h0, .inr (2, [.int 4, .int 0, .int 0, .int 0, .null, .null, .null, .null, .null, .null, .null, .null]))] := hD
  refine lv_aload_n hx hb dX2_init_19 rfl (lv_at hl 0 rfl) ?_
  refine lv_iconst (v := 0) hx hb dX2_init_20 (by decide) ?_
  refine va_put (D := D) (ci := 2) (v := .int 0) (ty := .int) (C := RX2) (T := TX2) (N := 12) hx hb hts (fun w h => List.mem_cons_of_mem _ (List.mem_append_right _ h)) tyX2 tyX2_ok nmX2 hown hK hP hD hS 0 rfl rfl 3 (by decide) (hts (.fieldLink RX2 21 "PlankNine$Marsh" "errands" "I") (List.mem_of_getElem? (i := 7) rfl)) (fun _ h9 => h9) rfl (by decide +kernel) rfl rfl (Nat.le_of_ble_eq_true rfl) dX2_init_21 (fun H locs hP hD hS => ?_)
  have hP : va_P D vwCl [(h0, .inr (2, [.int 4, .int 0, .int 0, .int 0, .null, .null, .null, .null, .null, .null, .null, .null]))] H := hP
  have hD : va_D A [(h0, .inr (2, [.int 4, .int 0, .int 0, .int 0, .null, .null, .null, .null, .null, .null, .null, .null]))] := hD
  refine lv_aload_n hx hb dX2_init_24 rfl (lv_at hl 0 rfl) ?_
  refine lv_bipush (v := 9) hx hb dX2_init_25 (by decide) ?_
  refine va_newa (atype := .int) (ty := .int) (N' := 9) (n := 9) (a0 := (9, .inl (fun _ => 0))) hx hb (hts (.arrayClass .int) (List.mem_of_getElem? (i := 8) rfl)) rfl hK hP hD hS hA (fun _ => rfl) (by decide) (by decide) (by decide) (Nat.le_of_ble_eq_true rfl) (Nat.le_of_ble_eq_true rfl) dX2_init_27 (fun q1 c2 H hKn hP hD hS => ?_)
  obtain rfl : c2 = cy 1 := ra_int (hKn.2 4 (c2, .int) rfl).2 (hK.2 1 (cy 1, .int) rfl).2
  have hP : va_P D vwCl [(h0, .inr (2, [.int 4, .int 0, .int 0, .int 0, .null, .null, .null, .null, .null, .null, .null, .null])), (q1, .inl (cy 1, 9, .inl (fun _ => 0)))] H := hP
  have hD : va_D A [(h0, .inr (2, [.int 4, .int 0, .int 0, .int 0, .null, .null, .null, .null, .null, .null, .null, .null])), (q1, .inl (cy 1, 9, .inl (fun _ => 0)))] := hD
  refine va_putF (D := D) (ci := 2) (v := .ref q1) (ty := .array .int) (C := RX2) (T := TX2) (N := 12) hx hb hts (fun w h => List.mem_cons_of_mem _ (List.mem_append_right _ h)) tyX2 tyX2_ok nmX2 hown hK hP hD hS 0 rfl rfl 4 (by decide) (hts (.fieldLink RX2 24 "PlankNine$Marsh" "endA" "[I") (List.mem_of_getElem? (i := 9) rfl)) (fun _ h9 => h9) rfl hin rfl (by decide +kernel) rfl rfl (Nat.le_of_ble_eq_true rfl) dX2_init_29 (fun H locs hP hD hS => ?_)
  have hP : va_P D vwCl [(h0, .inr (2, [.int 4, .int 0, .int 0, .int 0, .ref q1, .null, .null, .null, .null, .null, .null, .null])), (q1, .inl (cy 1, 9, .inl (fun _ => 0)))] H := hP
  have hD : va_D A [(h0, .inr (2, [.int 4, .int 0, .int 0, .int 0, .ref q1, .null, .null, .null, .null, .null, .null, .null])), (q1, .inl (cy 1, 9, .inl (fun _ => 0)))] := hD
  refine lv_aload_n hx hb dX2_init_32 rfl (lv_at hl 0 rfl) ?_
  refine lv_bipush (v := 9) hx hb dX2_init_33 (by decide) ?_
  refine va_newa (atype := .int) (ty := .int) (N' := 9) (n := 9) (a0 := (9, .inl (fun _ => 0))) hx hb (hts (.arrayClass .int) (List.mem_of_getElem? (i := 8) rfl)) rfl hK hP hD hS hA (fun _ => rfl) (by decide) (by decide) (by decide) (Nat.le_of_ble_eq_true rfl) (Nat.le_of_ble_eq_true rfl) dX2_init_35 (fun q3 c4 H hKn hP hD hS => ?_)
  obtain rfl : c4 = cy 1 := ra_int (hKn.2 4 (c4, .int) rfl).2 (hK.2 1 (cy 1, .int) rfl).2
  have hP : va_P D vwCl [(h0, .inr (2, [.int 4, .int 0, .int 0, .int 0, .ref q1, .null, .null, .null, .null, .null, .null, .null])), (q1, .inl (cy 1, 9, .inl (fun _ => 0))), (q3, .inl (cy 1, 9, .inl (fun _ => 0)))] H := hP
  have hD : va_D A [(h0, .inr (2, [.int 4, .int 0, .int 0, .int 0, .ref q1, .null, .null, .null, .null, .null, .null, .null])), (q1, .inl (cy 1, 9, .inl (fun _ => 0))), (q3, .inl (cy 1, 9, .inl (fun _ => 0)))] := hD
  refine va_putF (D := D) (ci := 2) (v := .ref q3) (ty := .array .int) (C := RX2) (T := TX2) (N := 12) hx hb hts (fun w h => List.mem_cons_of_mem _ (List.mem_append_right _ h)) tyX2 tyX2_ok nmX2 hown hK hP hD hS 0 rfl rfl 5 (by decide) (hts (.fieldLink RX2 28 "PlankNine$Marsh" "endB" "[I") (List.mem_of_getElem? (i := 10) rfl)) (fun _ h9 => h9) rfl hin rfl (by decide +kernel) rfl rfl (Nat.le_of_ble_eq_true rfl) dX2_init_37 (fun H locs hP hD hS => ?_)
  have hP : va_P D vwCl [(h0, .inr (2, [.int 4, .int 0, .int 0, .int 0, .ref q1, .ref q3, .null, .null, .null, .null, .null, .null])), (q1, .inl (cy 1, 9, .inl (fun _ => 0))), (q3, .inl (cy 1, 9, .inl (fun _ => 0)))] H := hP
  have hD : va_D A [(h0, .inr (2, [.int 4, .int 0, .int 0, .int 0, .ref q1, .ref q3, .null, .null, .null, .null, .null, .null])), (q1, .inl (cy 1, 9, .inl (fun _ => 0))), (q3, .inl (cy 1, 9, .inl (fun _ => 0)))] := hD
  refine lv_aload_n hx hb dX2_init_40 rfl (lv_at hl 0 rfl) ?_
  refine lv_bipush (v := 9) hx hb dX2_init_41 (by decide) ?_
  refine va_newa (atype := .int) (ty := .int) (N' := 9) (n := 9) (a0 := (9, .inl (fun _ => 0))) hx hb (hts (.arrayClass .int) (List.mem_of_getElem? (i := 8) rfl)) rfl hK hP hD hS hA (fun _ => rfl) (by decide) (by decide) (by decide) (Nat.le_of_ble_eq_true rfl) (Nat.le_of_ble_eq_true rfl) dX2_init_43 (fun q5 c6 H hKn hP hD hS => ?_)
  obtain rfl : c6 = cy 1 := ra_int (hKn.2 4 (c6, .int) rfl).2 (hK.2 1 (cy 1, .int) rfl).2
  have hP : va_P D vwCl [(h0, .inr (2, [.int 4, .int 0, .int 0, .int 0, .ref q1, .ref q3, .null, .null, .null, .null, .null, .null])), (q1, .inl (cy 1, 9, .inl (fun _ => 0))), (q3, .inl (cy 1, 9, .inl (fun _ => 0))), (q5, .inl (cy 1, 9, .inl (fun _ => 0)))] H := hP
  have hD : va_D A [(h0, .inr (2, [.int 4, .int 0, .int 0, .int 0, .ref q1, .ref q3, .null, .null, .null, .null, .null, .null])), (q1, .inl (cy 1, 9, .inl (fun _ => 0))), (q3, .inl (cy 1, 9, .inl (fun _ => 0))), (q5, .inl (cy 1, 9, .inl (fun _ => 0)))] := hD
  refine va_putF (D := D) (ci := 2) (v := .ref q5) (ty := .array .int) (C := RX2) (T := TX2) (N := 12) hx hb hts (fun w h => List.mem_cons_of_mem _ (List.mem_append_right _ h)) tyX2 tyX2_ok nmX2 hown hK hP hD hS 0 rfl rfl 6 (by decide) (hts (.fieldLink RX2 31 "PlankNine$Marsh" "toldToBear" "[I") (List.mem_of_getElem? (i := 11) rfl)) (fun _ h9 => h9) rfl hin rfl (by decide +kernel) rfl rfl (Nat.le_of_ble_eq_true rfl) dX2_init_45 (fun H locs hP hD hS => ?_)
  have hP : va_P D vwCl [(h0, .inr (2, [.int 4, .int 0, .int 0, .int 0, .ref q1, .ref q3, .ref q5, .null, .null, .null, .null, .null])), (q1, .inl (cy 1, 9, .inl (fun _ => 0))), (q3, .inl (cy 1, 9, .inl (fun _ => 0))), (q5, .inl (cy 1, 9, .inl (fun _ => 0)))] H := hP
  have hD : va_D A [(h0, .inr (2, [.int 4, .int 0, .int 0, .int 0, .ref q1, .ref q3, .ref q5, .null, .null, .null, .null, .null])), (q1, .inl (cy 1, 9, .inl (fun _ => 0))), (q3, .inl (cy 1, 9, .inl (fun _ => 0))), (q5, .inl (cy 1, 9, .inl (fun _ => 0)))] := hD
  refine lv_aload_n hx hb dX2_init_48 rfl (lv_at hl 0 rfl) ?_
  refine lv_iconst (v := 4) hx hb dX2_init_49 (by decide) ?_
  refine va_newa (atype := .int) (ty := .int) (N' := 4) (n := 4) (a0 := (4, .inl (fun _ => 0))) hx hb (hts (.arrayClass .int) (List.mem_of_getElem? (i := 8) rfl)) rfl hK hP hD hS hA (fun _ => rfl) (by decide) (by decide) (by decide) (Nat.le_of_ble_eq_true rfl) (Nat.le_of_ble_eq_true rfl) dX2_init_50 (fun q7 c8 H hKn hP hD hS => ?_)
  obtain rfl : c8 = cy 1 := ra_int (hKn.2 4 (c8, .int) rfl).2 (hK.2 1 (cy 1, .int) rfl).2
  have hP : va_P D vwCl [(h0, .inr (2, [.int 4, .int 0, .int 0, .int 0, .ref q1, .ref q3, .ref q5, .null, .null, .null, .null, .null])), (q1, .inl (cy 1, 9, .inl (fun _ => 0))), (q3, .inl (cy 1, 9, .inl (fun _ => 0))), (q5, .inl (cy 1, 9, .inl (fun _ => 0))), (q7, .inl (cy 1, 4, .inl (fun _ => 0)))] H := hP
  have hD : va_D A [(h0, .inr (2, [.int 4, .int 0, .int 0, .int 0, .ref q1, .ref q3, .ref q5, .null, .null, .null, .null, .null])), (q1, .inl (cy 1, 9, .inl (fun _ => 0))), (q3, .inl (cy 1, 9, .inl (fun _ => 0))), (q5, .inl (cy 1, 9, .inl (fun _ => 0))), (q7, .inl (cy 1, 4, .inl (fun _ => 0)))] := hD
  refine va_putF (D := D) (ci := 2) (v := .ref q7) (ty := .array .int) (C := RX2) (T := TX2) (N := 12) hx hb hts (fun w h => List.mem_cons_of_mem _ (List.mem_append_right _ h)) tyX2 tyX2_ok nmX2 hown hK hP hD hS 0 rfl rfl 7 (by decide) (hts (.fieldLink RX2 34 "PlankNine$Marsh" "weight" "[I") (List.mem_of_getElem? (i := 12) rfl)) (fun _ h9 => h9) rfl hin rfl (by decide +kernel) rfl rfl (Nat.le_of_ble_eq_true rfl) dX2_init_52 (fun H locs hP hD hS => ?_)
  have hP : va_P D vwCl [(h0, .inr (2, [.int 4, .int 0, .int 0, .int 0, .ref q1, .ref q3, .ref q5, .ref q7, .null, .null, .null, .null])), (q1, .inl (cy 1, 9, .inl (fun _ => 0))), (q3, .inl (cy 1, 9, .inl (fun _ => 0))), (q5, .inl (cy 1, 9, .inl (fun _ => 0))), (q7, .inl (cy 1, 4, .inl (fun _ => 0)))] H := hP
  have hD : va_D A [(h0, .inr (2, [.int 4, .int 0, .int 0, .int 0, .ref q1, .ref q3, .ref q5, .ref q7, .null, .null, .null, .null])), (q1, .inl (cy 1, 9, .inl (fun _ => 0))), (q3, .inl (cy 1, 9, .inl (fun _ => 0))), (q5, .inl (cy 1, 9, .inl (fun _ => 0))), (q7, .inl (cy 1, 4, .inl (fun _ => 0)))] := hD
  refine lv_aload_n hx hb dX2_init_55 rfl (lv_at hl 0 rfl) ?_
  refine lv_iconst (v := 4) hx hb dX2_init_56 (by decide) ?_
  refine va_newa (atype := .int) (ty := .int) (N' := 4) (n := 4) (a0 := (4, .inl (fun _ => 0))) hx hb (hts (.arrayClass .int) (List.mem_of_getElem? (i := 8) rfl)) rfl hK hP hD hS hA (fun _ => rfl) (by decide) (by decide) (by decide) (Nat.le_of_ble_eq_true rfl) (Nat.le_of_ble_eq_true rfl) dX2_init_57 (fun q9 c10 H hKn hP hD hS => ?_)
  obtain rfl : c10 = cy 1 := ra_int (hKn.2 4 (c10, .int) rfl).2 (hK.2 1 (cy 1, .int) rfl).2
  have hP : va_P D vwCl [(h0, .inr (2, [.int 4, .int 0, .int 0, .int 0, .ref q1, .ref q3, .ref q5, .ref q7, .null, .null, .null, .null])), (q1, .inl (cy 1, 9, .inl (fun _ => 0))), (q3, .inl (cy 1, 9, .inl (fun _ => 0))), (q5, .inl (cy 1, 9, .inl (fun _ => 0))), (q7, .inl (cy 1, 4, .inl (fun _ => 0))), (q9, .inl (cy 1, 4, .inl (fun _ => 0)))] H := hP
  have hD : va_D A [(h0, .inr (2, [.int 4, .int 0, .int 0, .int 0, .ref q1, .ref q3, .ref q5, .ref q7, .null, .null, .null, .null])), (q1, .inl (cy 1, 9, .inl (fun _ => 0))), (q3, .inl (cy 1, 9, .inl (fun _ => 0))), (q5, .inl (cy 1, 9, .inl (fun _ => 0))), (q7, .inl (cy 1, 4, .inl (fun _ => 0))), (q9, .inl (cy 1, 4, .inl (fun _ => 0)))] := hD
  refine va_putF (D := D) (ci := 2) (v := .ref q9) (ty := .array .int) (C := RX2) (T := TX2) (N := 12) hx hb hts (fun w h => List.mem_cons_of_mem _ (List.mem_append_right _ h)) tyX2 tyX2_ok nmX2 hown hK hP hD hS 0 rfl rfl 8 (by decide) (hts (.fieldLink RX2 37 "PlankNine$Marsh" "stride" "[I") (List.mem_of_getElem? (i := 13) rfl)) (fun _ h9 => h9) rfl hin rfl (by decide +kernel) rfl rfl (Nat.le_of_ble_eq_true rfl) dX2_init_59 (fun H locs hP hD hS => ?_)
  have hP : va_P D vwCl [(h0, .inr (2, [.int 4, .int 0, .int 0, .int 0, .ref q1, .ref q3, .ref q5, .ref q7, .ref q9, .null, .null, .null])), (q1, .inl (cy 1, 9, .inl (fun _ => 0))), (q3, .inl (cy 1, 9, .inl (fun _ => 0))), (q5, .inl (cy 1, 9, .inl (fun _ => 0))), (q7, .inl (cy 1, 4, .inl (fun _ => 0))), (q9, .inl (cy 1, 4, .inl (fun _ => 0)))] H := hP
  have hD : va_D A [(h0, .inr (2, [.int 4, .int 0, .int 0, .int 0, .ref q1, .ref q3, .ref q5, .ref q7, .ref q9, .null, .null, .null])), (q1, .inl (cy 1, 9, .inl (fun _ => 0))), (q3, .inl (cy 1, 9, .inl (fun _ => 0))), (q5, .inl (cy 1, 9, .inl (fun _ => 0))), (q7, .inl (cy 1, 4, .inl (fun _ => 0))), (q9, .inl (cy 1, 4, .inl (fun _ => 0)))] := hD
  refine lv_aload_n hx hb dX2_init_62 rfl (lv_at hl 0 rfl) ?_
  refine lv_iconst (v := 3) hx hb dX2_init_63 (by decide) ?_
  refine va_newa (atype := .int) (ty := .int) (N' := 3) (n := 3) (a0 := (3, .inl (fun _ => 0))) hx hb (hts (.arrayClass .int) (List.mem_of_getElem? (i := 8) rfl)) rfl hK hP hD hS hA (fun _ => rfl) (by decide) (by decide) (by decide) (Nat.le_of_ble_eq_true rfl) (Nat.le_of_ble_eq_true rfl) dX2_init_64 (fun q11 c12 H hKn hP hD hS => ?_)
  obtain rfl : c12 = cy 1 := ra_int (hKn.2 4 (c12, .int) rfl).2 (hK.2 1 (cy 1, .int) rfl).2
  have hP : va_P D vwCl [(h0, .inr (2, [.int 4, .int 0, .int 0, .int 0, .ref q1, .ref q3, .ref q5, .ref q7, .ref q9, .null, .null, .null])), (q1, .inl (cy 1, 9, .inl (fun _ => 0))), (q3, .inl (cy 1, 9, .inl (fun _ => 0))), (q5, .inl (cy 1, 9, .inl (fun _ => 0))), (q7, .inl (cy 1, 4, .inl (fun _ => 0))), (q9, .inl (cy 1, 4, .inl (fun _ => 0))), (q11, .inl (cy 1, 3, .inl (fun _ => 0)))] H := hP
  have hD : va_D A [(h0, .inr (2, [.int 4, .int 0, .int 0, .int 0, .ref q1, .ref q3, .ref q5, .ref q7, .ref q9, .null, .null, .null])), (q1, .inl (cy 1, 9, .inl (fun _ => 0))), (q3, .inl (cy 1, 9, .inl (fun _ => 0))), (q5, .inl (cy 1, 9, .inl (fun _ => 0))), (q7, .inl (cy 1, 4, .inl (fun _ => 0))), (q9, .inl (cy 1, 4, .inl (fun _ => 0))), (q11, .inl (cy 1, 3, .inl (fun _ => 0)))] := hD
  refine va_putF (D := D) (ci := 2) (v := .ref q11) (ty := .array .int) (C := RX2) (T := TX2) (N := 12) hx hb hts (fun w h => List.mem_cons_of_mem _ (List.mem_append_right _ h)) tyX2 tyX2_ok nmX2 hown hK hP hD hS 0 rfl rfl 9 (by decide) (hts (.fieldLink RX2 40 "PlankNine$Marsh" "who" "[I") (List.mem_of_getElem? (i := 14) rfl)) (fun _ h9 => h9) rfl hin rfl (by decide +kernel) rfl rfl (Nat.le_of_ble_eq_true rfl) dX2_init_66 (fun H locs hP hD hS => ?_)
  have hP : va_P D vwCl [(h0, .inr (2, [.int 4, .int 0, .int 0, .int 0, .ref q1, .ref q3, .ref q5, .ref q7, .ref q9, .ref q11, .null, .null])), (q1, .inl (cy 1, 9, .inl (fun _ => 0))), (q3, .inl (cy 1, 9, .inl (fun _ => 0))), (q5, .inl (cy 1, 9, .inl (fun _ => 0))), (q7, .inl (cy 1, 4, .inl (fun _ => 0))), (q9, .inl (cy 1, 4, .inl (fun _ => 0))), (q11, .inl (cy 1, 3, .inl (fun _ => 0)))] H := hP
  have hD : va_D A [(h0, .inr (2, [.int 4, .int 0, .int 0, .int 0, .ref q1, .ref q3, .ref q5, .ref q7, .ref q9, .ref q11, .null, .null])), (q1, .inl (cy 1, 9, .inl (fun _ => 0))), (q3, .inl (cy 1, 9, .inl (fun _ => 0))), (q5, .inl (cy 1, 9, .inl (fun _ => 0))), (q7, .inl (cy 1, 4, .inl (fun _ => 0))), (q9, .inl (cy 1, 4, .inl (fun _ => 0))), (q11, .inl (cy 1, 3, .inl (fun _ => 0)))] := hD
  refine lv_aload_n hx hb dX2_init_69 rfl (lv_at hl 0 rfl) ?_
  refine lv_iconst (v := 3) hx hb dX2_init_70 (by decide) ?_
  refine va_newa (atype := .int) (ty := .int) (N' := 3) (n := 3) (a0 := (3, .inl (fun _ => 0))) hx hb (hts (.arrayClass .int) (List.mem_of_getElem? (i := 8) rfl)) rfl hK hP hD hS hA (fun _ => rfl) (by decide) (by decide) (by decide) (Nat.le_of_ble_eq_true rfl) (Nat.le_of_ble_eq_true rfl) dX2_init_71 (fun q13 c14 H hKn hP hD hS => ?_)
  obtain rfl : c14 = cy 1 := ra_int (hKn.2 4 (c14, .int) rfl).2 (hK.2 1 (cy 1, .int) rfl).2
  have hP : va_P D vwCl [(h0, .inr (2, [.int 4, .int 0, .int 0, .int 0, .ref q1, .ref q3, .ref q5, .ref q7, .ref q9, .ref q11, .null, .null])), (q1, .inl (cy 1, 9, .inl (fun _ => 0))), (q3, .inl (cy 1, 9, .inl (fun _ => 0))), (q5, .inl (cy 1, 9, .inl (fun _ => 0))), (q7, .inl (cy 1, 4, .inl (fun _ => 0))), (q9, .inl (cy 1, 4, .inl (fun _ => 0))), (q11, .inl (cy 1, 3, .inl (fun _ => 0))), (q13, .inl (cy 1, 3, .inl (fun _ => 0)))] H := hP
  have hD : va_D A [(h0, .inr (2, [.int 4, .int 0, .int 0, .int 0, .ref q1, .ref q3, .ref q5, .ref q7, .ref q9, .ref q11, .null, .null])), (q1, .inl (cy 1, 9, .inl (fun _ => 0))), (q3, .inl (cy 1, 9, .inl (fun _ => 0))), (q5, .inl (cy 1, 9, .inl (fun _ => 0))), (q7, .inl (cy 1, 4, .inl (fun _ => 0))), (q9, .inl (cy 1, 4, .inl (fun _ => 0))), (q11, .inl (cy 1, 3, .inl (fun _ => 0))), (q13, .inl (cy 1, 3, .inl (fun _ => 0)))] := hD
  refine va_putF (D := D) (ci := 2) (v := .ref q13) (ty := .array .int) (C := RX2) (T := TX2) (N := 12) hx hb hts (fun w h => List.mem_cons_of_mem _ (List.mem_append_right _ h)) tyX2 tyX2_ok nmX2 hown hK hP hD hS 0 rfl rfl 10 (by decide) (hts (.fieldLink RX2 43 "PlankNine$Marsh" "from" "[I") (List.mem_of_getElem? (i := 15) rfl)) (fun _ h9 => h9) rfl hin rfl (by decide +kernel) rfl rfl (Nat.le_of_ble_eq_true rfl) dX2_init_73 (fun H locs hP hD hS => ?_)
  have hP : va_P D vwCl [(h0, .inr (2, [.int 4, .int 0, .int 0, .int 0, .ref q1, .ref q3, .ref q5, .ref q7, .ref q9, .ref q11, .ref q13, .null])), (q1, .inl (cy 1, 9, .inl (fun _ => 0))), (q3, .inl (cy 1, 9, .inl (fun _ => 0))), (q5, .inl (cy 1, 9, .inl (fun _ => 0))), (q7, .inl (cy 1, 4, .inl (fun _ => 0))), (q9, .inl (cy 1, 4, .inl (fun _ => 0))), (q11, .inl (cy 1, 3, .inl (fun _ => 0))), (q13, .inl (cy 1, 3, .inl (fun _ => 0)))] H := hP
  have hD : va_D A [(h0, .inr (2, [.int 4, .int 0, .int 0, .int 0, .ref q1, .ref q3, .ref q5, .ref q7, .ref q9, .ref q11, .ref q13, .null])), (q1, .inl (cy 1, 9, .inl (fun _ => 0))), (q3, .inl (cy 1, 9, .inl (fun _ => 0))), (q5, .inl (cy 1, 9, .inl (fun _ => 0))), (q7, .inl (cy 1, 4, .inl (fun _ => 0))), (q9, .inl (cy 1, 4, .inl (fun _ => 0))), (q11, .inl (cy 1, 3, .inl (fun _ => 0))), (q13, .inl (cy 1, 3, .inl (fun _ => 0)))] := hD
  refine lv_aload_n hx hb dX2_init_76 rfl (lv_at hl 0 rfl) ?_
  refine lv_iconst (v := 3) hx hb dX2_init_77 (by decide) ?_
  refine va_newa (atype := .int) (ty := .int) (N' := 3) (n := 3) (a0 := (3, .inl (fun _ => 0))) hx hb (hts (.arrayClass .int) (List.mem_of_getElem? (i := 8) rfl)) rfl hK hP hD hS hA (fun _ => rfl) (by decide) (by decide) (by decide) (Nat.le_of_ble_eq_true rfl) (Nat.le_of_ble_eq_true rfl) dX2_init_78 (fun q15 c16 H hKn hP hD hS => ?_)
  obtain rfl : c16 = cy 1 := ra_int (hKn.2 4 (c16, .int) rfl).2 (hK.2 1 (cy 1, .int) rfl).2
  have hP : va_P D vwCl [(h0, .inr (2, [.int 4, .int 0, .int 0, .int 0, .ref q1, .ref q3, .ref q5, .ref q7, .ref q9, .ref q11, .ref q13, .null])), (q1, .inl (cy 1, 9, .inl (fun _ => 0))), (q3, .inl (cy 1, 9, .inl (fun _ => 0))), (q5, .inl (cy 1, 9, .inl (fun _ => 0))), (q7, .inl (cy 1, 4, .inl (fun _ => 0))), (q9, .inl (cy 1, 4, .inl (fun _ => 0))), (q11, .inl (cy 1, 3, .inl (fun _ => 0))), (q13, .inl (cy 1, 3, .inl (fun _ => 0))), (q15, .inl (cy 1, 3, .inl (fun _ => 0)))] H := hP
  have hD : va_D A [(h0, .inr (2, [.int 4, .int 0, .int 0, .int 0, .ref q1, .ref q3, .ref q5, .ref q7, .ref q9, .ref q11, .ref q13, .null])), (q1, .inl (cy 1, 9, .inl (fun _ => 0))), (q3, .inl (cy 1, 9, .inl (fun _ => 0))), (q5, .inl (cy 1, 9, .inl (fun _ => 0))), (q7, .inl (cy 1, 4, .inl (fun _ => 0))), (q9, .inl (cy 1, 4, .inl (fun _ => 0))), (q11, .inl (cy 1, 3, .inl (fun _ => 0))), (q13, .inl (cy 1, 3, .inl (fun _ => 0))), (q15, .inl (cy 1, 3, .inl (fun _ => 0)))] := hD
  refine va_putF (D := D) (ci := 2) (v := .ref q15) (ty := .array .int) (C := RX2) (T := TX2) (N := 12) hx hb hts (fun w h => List.mem_cons_of_mem _ (List.mem_append_right _ h)) tyX2 tyX2_ok nmX2 hown hK hP hD hS 0 rfl rfl 11 (by decide) (hts (.fieldLink RX2 46 "PlankNine$Marsh" "to" "[I") (List.mem_of_getElem? (i := 16) rfl)) (fun _ h9 => h9) rfl hin rfl (by decide +kernel) rfl rfl (Nat.le_of_ble_eq_true rfl) dX2_init_80 (fun H locs hP hD hS => ?_)
  have hP : va_P D vwCl [(h0, .inr (2, [.int 4, .int 0, .int 0, .int 0, .ref q1, .ref q3, .ref q5, .ref q7, .ref q9, .ref q11, .ref q13, .ref q15])), (q1, .inl (cy 1, 9, .inl (fun _ => 0))), (q3, .inl (cy 1, 9, .inl (fun _ => 0))), (q5, .inl (cy 1, 9, .inl (fun _ => 0))), (q7, .inl (cy 1, 4, .inl (fun _ => 0))), (q9, .inl (cy 1, 4, .inl (fun _ => 0))), (q11, .inl (cy 1, 3, .inl (fun _ => 0))), (q13, .inl (cy 1, 3, .inl (fun _ => 0))), (q15, .inl (cy 1, 3, .inl (fun _ => 0)))] H := hP
  have hD : va_D A [(h0, .inr (2, [.int 4, .int 0, .int 0, .int 0, .ref q1, .ref q3, .ref q5, .ref q7, .ref q9, .ref q11, .ref q13, .ref q15])), (q1, .inl (cy 1, 9, .inl (fun _ => 0))), (q3, .inl (cy 1, 9, .inl (fun _ => 0))), (q5, .inl (cy 1, 9, .inl (fun _ => 0))), (q7, .inl (cy 1, 4, .inl (fun _ => 0))), (q9, .inl (cy 1, 4, .inl (fun _ => 0))), (q11, .inl (cy 1, 3, .inl (fun _ => 0))), (q13, .inl (cy 1, 3, .inl (fun _ => 0))), (q15, .inl (cy 1, 3, .inl (fun _ => 0)))] := hD
  have hP9 := hP.sub (ws' := [(h0, .inr (2, [.int 4, .int 0, .int 0, .int 0, .ref q1, .ref q3, .ref q5, .ref q7, .ref q9, .ref q11, .ref q13, .ref q15])), (q1, .inl (cy 1, 9, .inl (fun _ => 0))), (q3, .inl (cy 1, 9, .inl (fun _ => 0))), (q5, .inl (cy 1, 9, .inl (fun _ => 0))), (q7, .inl (cy 1, 4, .inl (fun _ => 0))), (q9, .inl (cy 1, 4, .inl (fun _ => 0))), (q11, .inl (cy 1, 3, .inl (fun _ => 0))), (q13, .inl (cy 1, 3, .inl (fun _ => 0))), (q15, .inl (cy 1, 3, .inl (fun _ => 0)))]) [0, 1, 2, 3, 4, 5, 6, 7, 8] rfl
  have hD9 := hD.sub (ws' := [(h0, .inr (2, [.int 4, .int 0, .int 0, .int 0, .ref q1, .ref q3, .ref q5, .ref q7, .ref q9, .ref q11, .ref q13, .ref q15])), (q1, .inl (cy 1, 9, .inl (fun _ => 0))), (q3, .inl (cy 1, 9, .inl (fun _ => 0))), (q5, .inl (cy 1, 9, .inl (fun _ => 0))), (q7, .inl (cy 1, 4, .inl (fun _ => 0))), (q9, .inl (cy 1, 4, .inl (fun _ => 0))), (q11, .inl (cy 1, 3, .inl (fun _ => 0))), (q13, .inl (cy 1, 3, .inl (fun _ => 0))), (q15, .inl (cy 1, 3, .inl (fun _ => 0)))]) [0, 1, 2, 3, 4, 5, 6, 7, 8] (by decide) rfl
  exact W.vret hx hb hr (fun t ht hW => ⟨⟨(), rfl, trivial, q1, q3, q5, q7, q9, q11, q13, q15, by rw [ht]; exact hP9, hD9⟩, hS.F ht⟩) hS.2.2 dX2_init_83
set_option maxHeartbeats 4000000 in
set_option maxRecDepth 100000 in
theorem c_X3_init (l : Launch) (h0 sz : Nat) : Met l yX3_init wsX3_init ({ frames := 1, cells := 3, slots := 49, locals := 12 }) (va_Pc ([.ref h0]) (preC D cy sz [(h0, .inr (3, [.null, .null, .null, .int 0]))])) (va_Qv (fun _ : Unit => True) (fun _ t => ∃ (q1 : Nat) (q3 : Nat) (q5 : Nat), va_P D vwCl [(h0, .inr (3, [.ref q1, .ref q3, .ref q5, .int 0])), (q1, .inl (cy 1, 9, .inl (fun _ => 0))), (q3, .inl (cy 1, 20, .inl (fun _ => 0))), (q5, .inl (cy 1, 20, .inl (fun _ => 0)))] t.heap ∧ va_D (va_A [(h0, .inr (3, [.null, .null, .null, .int 0]))] sz) [(h0, .inr (3, [.ref q1, .ref q3, .ref q5, .int 0])), (q1, .inl (cy 1, 9, .inl (fun _ => 0))), (q3, .inl (cy 1, 20, .inl (fun _ => 0))), (q5, .inl (cy 1, 20, .inl (fun _ => 0)))]) (va_A [(h0, .inr (3, [.null, .null, .null, .int 0]))] sz)) 3 49 (va_A [(h0, .inr (3, [.null, .null, .null, .int 0]))] sz) := by
  refine Met.ofW (cc := cX3_init) (maxL := 1) (ret := none) (by decide) rfl ?_
  intro p e s m args below meth c s₁ B hml hv
  obtain ⟨rfl, hsz, hP, hK, hX0, hD0⟩ := hv
  have hx := B.exec
  have hb := B.bytes
  have hr := B.returns
  have hts := atoms_spec (ws := wsX3_init) B.pre
  have hown : s.vm.findClass RX3 = some m.cls := findClass_of_methodNamed B.named
  have hlocks := B.notSynchronized
  have hin : meth.name = "<init>" := (name_of_methodNamed B.named B.method).1
  subst hsz
  have hD := hD0.self (sz := s.heap.size)
  generalize hAe : va_A [(h0, .inr (3, [.null, .null, .null, .int 0]))] s.heap.size = A at hD ⊢
  have hA : ∀ q : Nat, s.heap.size ≤ q → A q := fun q h => by rw [← hAe]; exact Or.inr h
  have hS : va_S A s.heap s.heap [] := va_S.rf
  have hl := lv_entry ([.ref h0]) (n := 1) (Nat.le_of_ble_eq_true rfl)
  rw [lg_entry_eq]
  generalize (lg_sl ([.ref h0]) ++ List.replicate (1 - (lg_sl ([.ref h0])).length) Slot.unset).toArray = ls at hl ⊢
  have hl : lv_has ls 1 [(0, .ref h0)] := hl
  refine lv_aload_n hx hb dX3_init_0 rfl (lv_at hl 0 rfl) ?_
  refine W.objInit hx hb hown (hts (.methodLink RX3 3 objectInit) (List.mem_of_getElem? (i := 1) rfl)) (hts (.instanceMethod objectInit) (List.mem_of_getElem? (i := 2) rfl)) (hts (.code objectInit ⟨#[0xb1]⟩ 1 none) (List.mem_of_getElem? (i := 3) rfl)) rfl (by rw [hml]; exact hl.1) rfl dX3_init_1 (Nat.le_of_ble_eq_true rfl) (Nat.le_of_ble_eq_true rfl) ?_
  refine W.eq (g2 := F0 m 4 ls []) rfl ?_
  refine lv_aload_n hx hb dX3_init_4 rfl (lv_at hl 0 rfl) ?_
  refine lv_bipush (v := 9) hx hb dX3_init_5 (by decide) ?_
  refine va_newa (atype := .int) (ty := .int) (N' := 9) (n := 9) (a0 := (9, .inl (fun _ => 0))) hx hb (hts (.arrayClass .int) (List.mem_of_getElem? (i := 4) rfl)) rfl hK hP hD hS hA (fun _ => rfl) (by decide) (by decide) (by decide) (Nat.le_of_ble_eq_true rfl) (Nat.le_of_ble_eq_true rfl) dX3_init_7 (fun q1 c2 H hKn hP hD hS => ?_)
  obtain rfl : c2 = cy 1 := ra_int (hKn.2 4 (c2, .int) rfl).2 (hK.2 1 (cy 1, .int) rfl).2
  have hP : va_P D vwCl [(h0, .inr (3, [.null, .null, .null, .int 0])), (q1, .inl (cy 1, 9, .inl (fun _ => 0)))] H := hP
  have hD : va_D A [(h0, .inr (3, [.null, .null, .null, .int 0])), (q1, .inl (cy 1, 9, .inl (fun _ => 0)))] := hD
  refine va_putF (D := D) (ci := 3) (v := .ref q1) (ty := .array .int) (C := RX3) (T := TX3) (N := 4) hx hb hts (fun w h => List.mem_cons_of_mem _ (List.mem_append_right _ h)) tyX3 tyX3_ok nmX3 hown hK hP hD hS 0 rfl rfl 0 (by decide) (hts (.fieldLink RX3 9 "PlankNine$Now" "bears" "[I") (List.mem_of_getElem? (i := 5) rfl)) (fun _ h9 => h9) rfl hin rfl (by decide +kernel) rfl rfl (Nat.le_of_ble_eq_true rfl) dX3_init_9 (fun H locs hP hD hS => ?_)
  have hP : va_P D vwCl [(h0, .inr (3, [.ref q1, .null, .null, .int 0])), (q1, .inl (cy 1, 9, .inl (fun _ => 0)))] H := hP
  have hD : va_D A [(h0, .inr (3, [.ref q1, .null, .null, .int 0])), (q1, .inl (cy 1, 9, .inl (fun _ => 0)))] := hD
  refine lv_aload_n hx hb dX3_init_12 rfl (lv_at hl 0 rfl) ?_
  refine lv_bipush (v := 20) hx hb dX3_init_13 (by decide) ?_
  refine va_newa (atype := .int) (ty := .int) (N' := 20) (n := 20) (a0 := (20, .inl (fun _ => 0))) hx hb (hts (.arrayClass .int) (List.mem_of_getElem? (i := 4) rfl)) rfl hK hP hD hS hA (fun _ => rfl) (by decide) (by decide) (by decide) (Nat.le_of_ble_eq_true rfl) (Nat.le_of_ble_eq_true rfl) dX3_init_15 (fun q3 c4 H hKn hP hD hS => ?_)
  obtain rfl : c4 = cy 1 := ra_int (hKn.2 4 (c4, .int) rfl).2 (hK.2 1 (cy 1, .int) rfl).2
  have hP : va_P D vwCl [(h0, .inr (3, [.ref q1, .null, .null, .int 0])), (q1, .inl (cy 1, 9, .inl (fun _ => 0))), (q3, .inl (cy 1, 20, .inl (fun _ => 0)))] H := hP
  have hD : va_D A [(h0, .inr (3, [.ref q1, .null, .null, .int 0])), (q1, .inl (cy 1, 9, .inl (fun _ => 0))), (q3, .inl (cy 1, 20, .inl (fun _ => 0)))] := hD
  refine va_putF (D := D) (ci := 3) (v := .ref q3) (ty := .array .int) (C := RX3) (T := TX3) (N := 4) hx hb hts (fun w h => List.mem_cons_of_mem _ (List.mem_append_right _ h)) tyX3 tyX3_ok nmX3 hown hK hP hD hS 0 rfl rfl 1 (by decide) (hts (.fieldLink RX3 15 "PlankNine$Now" "wentPlank" "[I") (List.mem_of_getElem? (i := 6) rfl)) (fun _ h9 => h9) rfl hin rfl (by decide +kernel) rfl rfl (Nat.le_of_ble_eq_true rfl) dX3_init_17 (fun H locs hP hD hS => ?_)
  have hP : va_P D vwCl [(h0, .inr (3, [.ref q1, .ref q3, .null, .int 0])), (q1, .inl (cy 1, 9, .inl (fun _ => 0))), (q3, .inl (cy 1, 20, .inl (fun _ => 0)))] H := hP
  have hD : va_D A [(h0, .inr (3, [.ref q1, .ref q3, .null, .int 0])), (q1, .inl (cy 1, 9, .inl (fun _ => 0))), (q3, .inl (cy 1, 20, .inl (fun _ => 0)))] := hD
  refine lv_aload_n hx hb dX3_init_20 rfl (lv_at hl 0 rfl) ?_
  refine lv_bipush (v := 20) hx hb dX3_init_21 (by decide) ?_
  refine va_newa (atype := .int) (ty := .int) (N' := 20) (n := 20) (a0 := (20, .inl (fun _ => 0))) hx hb (hts (.arrayClass .int) (List.mem_of_getElem? (i := 4) rfl)) rfl hK hP hD hS hA (fun _ => rfl) (by decide) (by decide) (by decide) (Nat.le_of_ble_eq_true rfl) (Nat.le_of_ble_eq_true rfl) dX3_init_23 (fun q5 c6 H hKn hP hD hS => ?_)
  obtain rfl : c6 = cy 1 := ra_int (hKn.2 4 (c6, .int) rfl).2 (hK.2 1 (cy 1, .int) rfl).2
  have hP : va_P D vwCl [(h0, .inr (3, [.ref q1, .ref q3, .null, .int 0])), (q1, .inl (cy 1, 9, .inl (fun _ => 0))), (q3, .inl (cy 1, 20, .inl (fun _ => 0))), (q5, .inl (cy 1, 20, .inl (fun _ => 0)))] H := hP
  have hD : va_D A [(h0, .inr (3, [.ref q1, .ref q3, .null, .int 0])), (q1, .inl (cy 1, 9, .inl (fun _ => 0))), (q3, .inl (cy 1, 20, .inl (fun _ => 0))), (q5, .inl (cy 1, 20, .inl (fun _ => 0)))] := hD
  refine va_putF (D := D) (ci := 3) (v := .ref q5) (ty := .array .int) (C := RX3) (T := TX3) (N := 4) hx hb hts (fun w h => List.mem_cons_of_mem _ (List.mem_append_right _ h)) tyX3 tyX3_ok nmX3 hown hK hP hD hS 0 rfl rfl 2 (by decide) (hts (.fieldLink RX3 18 "PlankNine$Now" "wentWith" "[I") (List.mem_of_getElem? (i := 7) rfl)) (fun _ h9 => h9) rfl hin rfl (by decide +kernel) rfl rfl (Nat.le_of_ble_eq_true rfl) dX3_init_25 (fun H locs hP hD hS => ?_)
  have hP : va_P D vwCl [(h0, .inr (3, [.ref q1, .ref q3, .ref q5, .int 0])), (q1, .inl (cy 1, 9, .inl (fun _ => 0))), (q3, .inl (cy 1, 20, .inl (fun _ => 0))), (q5, .inl (cy 1, 20, .inl (fun _ => 0)))] H := hP
  have hD : va_D A [(h0, .inr (3, [.ref q1, .ref q3, .ref q5, .int 0])), (q1, .inl (cy 1, 9, .inl (fun _ => 0))), (q3, .inl (cy 1, 20, .inl (fun _ => 0))), (q5, .inl (cy 1, 20, .inl (fun _ => 0)))] := hD
  refine lv_aload_n hx hb dX3_init_28 rfl (lv_at hl 0 rfl) ?_
  refine lv_iconst (v := 0) hx hb dX3_init_29 (by decide) ?_
  refine va_put (D := D) (ci := 3) (v := .int 0) (ty := .int) (C := RX3) (T := TX3) (N := 4) hx hb hts (fun w h => List.mem_cons_of_mem _ (List.mem_append_right _ h)) tyX3 tyX3_ok nmX3 hown hK hP hD hS 0 rfl rfl 3 (by decide) (hts (.fieldLink RX3 21 "PlankNine$Now" "known" "I") (List.mem_of_getElem? (i := 8) rfl)) (fun _ h9 => h9) rfl (by decide +kernel) rfl rfl (Nat.le_of_ble_eq_true rfl) dX3_init_30 (fun H locs hP hD hS => ?_)
  have hP : va_P D vwCl [(h0, .inr (3, [.ref q1, .ref q3, .ref q5, .int 0])), (q1, .inl (cy 1, 9, .inl (fun _ => 0))), (q3, .inl (cy 1, 20, .inl (fun _ => 0))), (q5, .inl (cy 1, 20, .inl (fun _ => 0)))] H := hP
  have hD : va_D A [(h0, .inr (3, [.ref q1, .ref q3, .ref q5, .int 0])), (q1, .inl (cy 1, 9, .inl (fun _ => 0))), (q3, .inl (cy 1, 20, .inl (fun _ => 0))), (q5, .inl (cy 1, 20, .inl (fun _ => 0)))] := hD
  have hP9 := hP.sub (ws' := [(h0, .inr (3, [.ref q1, .ref q3, .ref q5, .int 0])), (q1, .inl (cy 1, 9, .inl (fun _ => 0))), (q3, .inl (cy 1, 20, .inl (fun _ => 0))), (q5, .inl (cy 1, 20, .inl (fun _ => 0)))]) [0, 1, 2, 3] rfl
  have hD9 := hD.sub (ws' := [(h0, .inr (3, [.ref q1, .ref q3, .ref q5, .int 0])), (q1, .inl (cy 1, 9, .inl (fun _ => 0))), (q3, .inl (cy 1, 20, .inl (fun _ => 0))), (q5, .inl (cy 1, 20, .inl (fun _ => 0)))]) [0, 1, 2, 3] (by decide) rfl
  exact W.vret hx hb hr (fun t ht hW => ⟨⟨(), rfl, trivial, q1, q3, q5, by rw [ht]; exact hP9, hD9⟩, hS.F ht⟩) hS.2.2 dX3_init_33
set_option maxHeartbeats 4000000 in
set_option maxRecDepth 100000 in
theorem c_X8_init (l : Launch) (h0 sz : Nat) (a1 : Nat) (a2 : Nat) : Met l yX8_init wsX8_init ({ frames := 1, cells := 1, slots := 5, locals := 12 }) (va_Pc ([.ref h0, .ref a1, .ref a2]) (preC D cy sz [(h0, .inr (8, [.null, .null, .null]))])) (va_Qv (fun _ : Unit => True) (fun _ t => ∃ (q1 : Nat), va_P D vwCl [(h0, .inr (8, [.ref a1, .ref a2, .ref q1])), (q1, .inl (cy 1, 5, .inl (fun _ => 0)))] t.heap ∧ va_D (va_A [(h0, .inr (8, [.null, .null, .null]))] sz) [(h0, .inr (8, [.ref a1, .ref a2, .ref q1])), (q1, .inl (cy 1, 5, .inl (fun _ => 0)))]) (va_A [(h0, .inr (8, [.null, .null, .null]))] sz)) 1 5 (va_A [(h0, .inr (8, [.null, .null, .null]))] sz) := by
  refine Met.ofW (cc := cX8_init) (maxL := 3) (ret := none) (by decide) rfl ?_
  intro p e s m args below meth c s₁ B hml hv
  obtain ⟨rfl, hsz, hP, hK, hX0, hD0⟩ := hv
  have hx := B.exec
  have hb := B.bytes
  have hr := B.returns
  have hts := atoms_spec (ws := wsX8_init) B.pre
  have hown : s.vm.findClass RX8 = some m.cls := findClass_of_methodNamed B.named
  have hlocks := B.notSynchronized
  have hin : meth.name = "<init>" := (name_of_methodNamed B.named B.method).1
  subst hsz
  have hD := hD0.self (sz := s.heap.size)
  generalize hAe : va_A [(h0, .inr (8, [.null, .null, .null]))] s.heap.size = A at hD ⊢
  have hA : ∀ q : Nat, s.heap.size ≤ q → A q := fun q h => by rw [← hAe]; exact Or.inr h
  have hS : va_S A s.heap s.heap [] := va_S.rf
  have hl := lv_entry ([.ref h0, .ref a1, .ref a2]) (n := 3) (Nat.le_of_ble_eq_true rfl)
  rw [lg_entry_eq]
  generalize (lg_sl ([.ref h0, .ref a1, .ref a2]) ++ List.replicate (3 - (lg_sl ([.ref h0, .ref a1, .ref a2])).length) Slot.unset).toArray = ls at hl ⊢
  have hl : lv_has ls 3 [(0, .ref h0), (1, .ref a1), (2, .ref a2)] := hl
  refine lv_aload_n hx hb dX8_init_0 rfl (lv_at hl 0 rfl) ?_
  refine W.objInit hx hb hown (hts (.methodLink RX8 3 objectInit) (List.mem_of_getElem? (i := 1) rfl)) (hts (.instanceMethod objectInit) (List.mem_of_getElem? (i := 2) rfl)) (hts (.code objectInit ⟨#[0xb1]⟩ 1 none) (List.mem_of_getElem? (i := 3) rfl)) rfl (by rw [hml]; exact hl.1) rfl dX8_init_1 (Nat.le_of_ble_eq_true rfl) (Nat.le_of_ble_eq_true rfl) ?_
  refine W.eq (g2 := F0 m 4 ls []) rfl ?_
  refine lv_aload_n hx hb dX8_init_4 rfl (lv_at hl 0 rfl) ?_
  refine lv_iconst (v := 5) hx hb dX8_init_5 (by decide) ?_
  refine va_newa (atype := .int) (ty := .int) (N' := 5) (n := 5) (a0 := (5, .inl (fun _ => 0))) hx hb (hts (.arrayClass .int) (List.mem_of_getElem? (i := 4) rfl)) rfl hK hP hD hS hA (fun _ => rfl) (by decide) (by decide) (by decide) (Nat.le_of_ble_eq_true rfl) (Nat.le_of_ble_eq_true rfl) dX8_init_6 (fun q1 c2 H hKn hP hD hS => ?_)
  obtain rfl : c2 = cy 1 := ra_int (hKn.2 4 (c2, .int) rfl).2 (hK.2 1 (cy 1, .int) rfl).2
  have hP : va_P D vwCl [(h0, .inr (8, [.null, .null, .null])), (q1, .inl (cy 1, 5, .inl (fun _ => 0)))] H := hP
  have hD : va_D A [(h0, .inr (8, [.null, .null, .null])), (q1, .inl (cy 1, 5, .inl (fun _ => 0)))] := hD
  refine va_putF (D := D) (ci := 8) (v := .ref q1) (ty := .array .int) (C := RX8) (T := TX8) (N := 3) hx hb hts (fun w h => List.mem_cons_of_mem _ (List.mem_append_right _ h)) tyX8 tyX8_ok nmX8 hown hK hP hD hS 0 rfl rfl 2 (by decide) (hts (.fieldLink RX8 9 "PlankNine$Ways" "found" "[I") (List.mem_of_getElem? (i := 5) rfl)) (fun _ h9 => h9) rfl hin rfl (by decide +kernel) rfl rfl (Nat.le_of_ble_eq_true rfl) dX8_init_8 (fun H locs hP hD hS => ?_)
  have hP : va_P D vwCl [(h0, .inr (8, [.null, .null, .ref q1])), (q1, .inl (cy 1, 5, .inl (fun _ => 0)))] H := hP
  have hD : va_D A [(h0, .inr (8, [.null, .null, .ref q1])), (q1, .inl (cy 1, 5, .inl (fun _ => 0)))] := hD
  refine lv_aload_n hx hb dX8_init_11 rfl (lv_at hl 0 rfl) ?_
  refine lv_aload_n hx hb dX8_init_12 rfl (lv_at hl 1 rfl) ?_
  refine va_putF (D := D) (ci := 8) (v := .ref a1) (ty := .object "PlankNine$Marsh") (C := RX8) (T := TX8) (N := 3) hx hb hts (fun w h => List.mem_cons_of_mem _ (List.mem_append_right _ h)) tyX8 tyX8_ok nmX8 hown hK hP hD hS 0 rfl rfl 0 (by decide) (hts (.fieldLink RX8 15 "PlankNine$Ways" "marsh" "LPlankNine$Marsh;") (List.mem_of_getElem? (i := 6) rfl)) (fun _ h9 => h9) rfl hin rfl (by decide +kernel) rfl rfl (Nat.le_of_ble_eq_true rfl) dX8_init_13 (fun H locs hP hD hS => ?_)
  have hP : va_P D vwCl [(h0, .inr (8, [.ref a1, .null, .ref q1])), (q1, .inl (cy 1, 5, .inl (fun _ => 0)))] H := hP
  have hD : va_D A [(h0, .inr (8, [.ref a1, .null, .ref q1])), (q1, .inl (cy 1, 5, .inl (fun _ => 0)))] := hD
  refine lv_aload_n hx hb dX8_init_16 rfl (lv_at hl 0 rfl) ?_
  refine lv_aload_n hx hb dX8_init_17 rfl (lv_at hl 2 rfl) ?_
  refine va_putF (D := D) (ci := 8) (v := .ref a2) (ty := .object "PlankNine$Now") (C := RX8) (T := TX8) (N := 3) hx hb hts (fun w h => List.mem_cons_of_mem _ (List.mem_append_right _ h)) tyX8 tyX8_ok nmX8 hown hK hP hD hS 0 rfl rfl 1 (by decide) (hts (.fieldLink RX8 19 "PlankNine$Ways" "now" "LPlankNine$Now;") (List.mem_of_getElem? (i := 7) rfl)) (fun _ h9 => h9) rfl hin rfl (by decide +kernel) rfl rfl (Nat.le_of_ble_eq_true rfl) dX8_init_18 (fun H locs hP hD hS => ?_)
  have hP : va_P D vwCl [(h0, .inr (8, [.ref a1, .ref a2, .ref q1])), (q1, .inl (cy 1, 5, .inl (fun _ => 0)))] H := hP
  have hD : va_D A [(h0, .inr (8, [.ref a1, .ref a2, .ref q1])), (q1, .inl (cy 1, 5, .inl (fun _ => 0)))] := hD
  have hP9 := hP.sub (ws' := [(h0, .inr (8, [.ref a1, .ref a2, .ref q1])), (q1, .inl (cy 1, 5, .inl (fun _ => 0)))]) [0, 1] rfl
  have hD9 := hD.sub (ws' := [(h0, .inr (8, [.ref a1, .ref a2, .ref q1])), (q1, .inl (cy 1, 5, .inl (fun _ => 0)))]) [0, 1] (by decide) rfl
  exact W.vret hx hb hr (fun t ht hW => ⟨⟨(), rfl, trivial, q1, by rw [ht]; exact hP9, hD9⟩, hS.F ht⟩) hS.2.2 dX8_init_21
set_option maxHeartbeats 4000000 in
set_option maxRecDepth 100000 in
theorem c_X5_init (l : Launch) (h0 sz : Nat) (a1 : Nat) (a2 : Nat) : Met l yX5_init wsX5_init ({ frames := 1, cells := 0, slots := 0, locals := 12 }) (va_Pc ([.ref h0, .ref a1, .ref a2]) (preC D cy sz [(h0, .inr (5, [.null, .null, .int 0]))])) (va_Qv (fun _ : Unit => True) (fun _ t => va_P D vwCl [(h0, .inr (5, [.ref a1, .ref a2, .int (-9)]))] t.heap ∧ va_D (va_A [(h0, .inr (5, [.null, .null, .int 0]))] sz) [(h0, .inr (5, [.ref a1, .ref a2, .int (-9)]))]) (va_A [(h0, .inr (5, [.null, .null, .int 0]))] sz)) 0 0 (va_A [(h0, .inr (5, [.null, .null, .int 0]))] sz) := by
  refine Met.ofW (cc := cX5_init) (maxL := 3) (ret := none) (by decide) rfl ?_
  intro p e s m args below meth c s₁ B hml hv
  obtain ⟨rfl, hsz, hP, hK, hX0, hD0⟩ := hv
  have hx := B.exec
  have hb := B.bytes
  have hr := B.returns
  have hts := atoms_spec (ws := wsX5_init) B.pre
  have hown : s.vm.findClass RX5 = some m.cls := findClass_of_methodNamed B.named
  have hlocks := B.notSynchronized
  have hin : meth.name = "<init>" := (name_of_methodNamed B.named B.method).1
  subst hsz
  have hD := hD0.self (sz := s.heap.size)
  generalize hAe : va_A [(h0, .inr (5, [.null, .null, .int 0]))] s.heap.size = A at hD ⊢
  have hA : ∀ q : Nat, s.heap.size ≤ q → A q := fun q h => by rw [← hAe]; exact Or.inr h
  have hS : va_S A s.heap s.heap [] := va_S.rf
  have hl := lv_entry ([.ref h0, .ref a1, .ref a2]) (n := 3) (Nat.le_of_ble_eq_true rfl)
  rw [lg_entry_eq]
  generalize (lg_sl ([.ref h0, .ref a1, .ref a2]) ++ List.replicate (3 - (lg_sl ([.ref h0, .ref a1, .ref a2])).length) Slot.unset).toArray = ls at hl ⊢
  have hl : lv_has ls 3 [(0, .ref h0), (1, .ref a1), (2, .ref a2)] := hl
  refine lv_aload_n hx hb dX5_init_0 rfl (lv_at hl 0 rfl) ?_
  refine W.objInit hx hb hown (hts (.methodLink RX5 3 objectInit) (List.mem_of_getElem? (i := 1) rfl)) (hts (.instanceMethod objectInit) (List.mem_of_getElem? (i := 2) rfl)) (hts (.code objectInit ⟨#[0xb1]⟩ 1 none) (List.mem_of_getElem? (i := 3) rfl)) rfl (by rw [hml]; exact hl.1) rfl dX5_init_1 (Nat.le_of_ble_eq_true rfl) (Nat.le_of_ble_eq_true rfl) ?_
  refine W.eq (g2 := F0 m 4 ls []) rfl ?_
  refine lv_aload_n hx hb dX5_init_4 rfl (lv_at hl 0 rfl) ?_
  refine lv_bipush (v := (-9)) hx hb dX5_init_5 (by decide) ?_
  refine va_put (D := D) (ci := 5) (v := .int (-9)) (ty := .int) (C := RX5) (T := TX5) (N := 3) hx hb hts (fun w h => List.mem_cons_of_mem _ (List.mem_append_right _ h)) tyX5 tyX5_ok nmX5 hown hK hP hD hS 0 rfl rfl 2 (by decide) (hts (.fieldLink RX5 9 "PlankNine$Rows" "most" "I") (List.mem_of_getElem? (i := 4) rfl)) (fun _ h9 => h9) rfl (by decide +kernel) rfl rfl (Nat.le_of_ble_eq_true rfl) dX5_init_7 (fun H locs hP hD hS => ?_)
  have hP : va_P D vwCl [(h0, .inr (5, [.null, .null, .int (-9)]))] H := hP
  have hD : va_D A [(h0, .inr (5, [.null, .null, .int (-9)]))] := hD
  refine lv_aload_n hx hb dX5_init_10 rfl (lv_at hl 0 rfl) ?_
  refine lv_aload_n hx hb dX5_init_11 rfl (lv_at hl 1 rfl) ?_
  refine va_putF (D := D) (ci := 5) (v := .ref a1) (ty := .object "PlankNine$Marsh") (C := RX5) (T := TX5) (N := 3) hx hb hts (fun w h => List.mem_cons_of_mem _ (List.mem_append_right _ h)) tyX5 tyX5_ok nmX5 hown hK hP hD hS 0 rfl rfl 0 (by decide) (hts (.fieldLink RX5 15 "PlankNine$Rows" "marsh" "LPlankNine$Marsh;") (List.mem_of_getElem? (i := 5) rfl)) (fun _ h9 => h9) rfl hin rfl (by decide +kernel) rfl rfl (Nat.le_of_ble_eq_true rfl) dX5_init_12 (fun H locs hP hD hS => ?_)
  have hP : va_P D vwCl [(h0, .inr (5, [.ref a1, .null, .int (-9)]))] H := hP
  have hD : va_D A [(h0, .inr (5, [.ref a1, .null, .int (-9)]))] := hD
  refine lv_aload_n hx hb dX5_init_15 rfl (lv_at hl 0 rfl) ?_
  refine lv_aload_n hx hb dX5_init_16 rfl (lv_at hl 2 rfl) ?_
  refine va_putF (D := D) (ci := 5) (v := .ref a2) (ty := .object "PlankNine$Now") (C := RX5) (T := TX5) (N := 3) hx hb hts (fun w h => List.mem_cons_of_mem _ (List.mem_append_right _ h)) tyX5 tyX5_ok nmX5 hown hK hP hD hS 0 rfl rfl 1 (by decide) (hts (.fieldLink RX5 19 "PlankNine$Rows" "now" "LPlankNine$Now;") (List.mem_of_getElem? (i := 6) rfl)) (fun _ h9 => h9) rfl hin rfl (by decide +kernel) rfl rfl (Nat.le_of_ble_eq_true rfl) dX5_init_17 (fun H locs hP hD hS => ?_)
  have hP : va_P D vwCl [(h0, .inr (5, [.ref a1, .ref a2, .int (-9)]))] H := hP
  have hD : va_D A [(h0, .inr (5, [.ref a1, .ref a2, .int (-9)]))] := hD
  have hP9 := hP.sub (ws' := [(h0, .inr (5, [.ref a1, .ref a2, .int (-9)]))]) [0] rfl
  have hD9 := hD.sub (ws' := [(h0, .inr (5, [.ref a1, .ref a2, .int (-9)]))]) [0] (by decide) rfl
  exact W.vret hx hb hr (fun t ht hW => ⟨⟨(), rfl, trivial, by rw [ht]; exact hP9, hD9⟩, hS.F ht⟩) hS.2.2 dX5_init_20
set_option maxHeartbeats 4000000 in
set_option maxRecDepth 100000 in
theorem c_X0_init (l : Launch) (h0 sz : Nat) (a1 : Nat) (a2 : Nat) : Met l yX0_init wsX0_init ({ frames := 1, cells := 0, slots := 0, locals := 12 }) (va_Pc ([.ref h0, .ref a1, .ref a2]) (preC D cy sz [(h0, .inr (0, [.null, .null, .int 0, .int 0, .int 0, .int 0]))])) (va_Qv (fun _ : Unit => True) (fun _ t => va_P D vwCl [(h0, .inr (0, [.ref a1, .ref a2, .int 0, .int 0, .int 0, .int 0]))] t.heap ∧ va_D (va_A [(h0, .inr (0, [.null, .null, .int 0, .int 0, .int 0, .int 0]))] sz) [(h0, .inr (0, [.ref a1, .ref a2, .int 0, .int 0, .int 0, .int 0]))]) (va_A [(h0, .inr (0, [.null, .null, .int 0, .int 0, .int 0, .int 0]))] sz)) 0 0 (va_A [(h0, .inr (0, [.null, .null, .int 0, .int 0, .int 0, .int 0]))] sz) := by
  refine Met.ofW (cc := cX0_init) (maxL := 3) (ret := none) (by decide) rfl ?_
  intro p e s m args below meth c s₁ B hml hv
  obtain ⟨rfl, hsz, hP, hK, hX0, hD0⟩ := hv
  have hx := B.exec
  have hb := B.bytes
  have hr := B.returns
  have hts := atoms_spec (ws := wsX0_init) B.pre
  have hown : s.vm.findClass RX0 = some m.cls := findClass_of_methodNamed B.named
  have hlocks := B.notSynchronized
  have hin : meth.name = "<init>" := (name_of_methodNamed B.named B.method).1
  subst hsz
  have hD := hD0.self (sz := s.heap.size)
  generalize hAe : va_A [(h0, .inr (0, [.null, .null, .int 0, .int 0, .int 0, .int 0]))] s.heap.size = A at hD ⊢
  have hA : ∀ q : Nat, s.heap.size ≤ q → A q := fun q h => by rw [← hAe]; exact Or.inr h
  have hS : va_S A s.heap s.heap [] := va_S.rf
  have hl := lv_entry ([.ref h0, .ref a1, .ref a2]) (n := 3) (Nat.le_of_ble_eq_true rfl)
  rw [lg_entry_eq]
  generalize (lg_sl ([.ref h0, .ref a1, .ref a2]) ++ List.replicate (3 - (lg_sl ([.ref h0, .ref a1, .ref a2])).length) Slot.unset).toArray = ls at hl ⊢
  have hl : lv_has ls 3 [(0, .ref h0), (1, .ref a1), (2, .ref a2)] := hl
  refine lv_aload_n hx hb dX0_init_0 rfl (lv_at hl 0 rfl) ?_
  refine W.objInit hx hb hown (hts (.methodLink RX0 3 objectInit) (List.mem_of_getElem? (i := 1) rfl)) (hts (.instanceMethod objectInit) (List.mem_of_getElem? (i := 2) rfl)) (hts (.code objectInit ⟨#[0xb1]⟩ 1 none) (List.mem_of_getElem? (i := 3) rfl)) rfl (by rw [hml]; exact hl.1) rfl dX0_init_1 (Nat.le_of_ble_eq_true rfl) (Nat.le_of_ble_eq_true rfl) ?_
  refine W.eq (g2 := F0 m 4 ls []) rfl ?_
  refine lv_aload_n hx hb dX0_init_4 rfl (lv_at hl 0 rfl) ?_
  refine lv_iconst (v := 0) hx hb dX0_init_5 (by decide) ?_
  refine va_put (D := D) (ci := 0) (v := .int 0) (ty := .int) (C := RX0) (T := TX0) (N := 6) hx hb hts (fun w h => List.mem_cons_of_mem _ (List.mem_append_right _ h)) tyX0 tyX0_ok nmX0 hown hK hP hD hS 0 rfl rfl 2 (by decide) (hts (.fieldLink RX0 9 "PlankNine$Cuts" "leastSum" "I") (List.mem_of_getElem? (i := 4) rfl)) (fun _ h9 => h9) rfl (by decide +kernel) rfl rfl (Nat.le_of_ble_eq_true rfl) dX0_init_6 (fun H locs hP hD hS => ?_)
  have hP : va_P D vwCl [(h0, .inr (0, [.null, .null, .int 0, .int 0, .int 0, .int 0]))] H := hP
  have hD : va_D A [(h0, .inr (0, [.null, .null, .int 0, .int 0, .int 0, .int 0]))] := hD
  refine lv_aload_n hx hb dX0_init_9 rfl (lv_at hl 0 rfl) ?_
  refine lv_iconst (v := 0) hx hb dX0_init_10 (by decide) ?_
  refine va_put (D := D) (ci := 0) (v := .int 0) (ty := .int) (C := RX0) (T := TX0) (N := 6) hx hb hts (fun w h => List.mem_cons_of_mem _ (List.mem_append_right _ h)) tyX0 tyX0_ok nmX0 hown hK hP hD hS 0 rfl rfl 3 (by decide) (hts (.fieldLink RX0 15 "PlankNine$Cuts" "leastBits" "I") (List.mem_of_getElem? (i := 5) rfl)) (fun _ h9 => h9) rfl (by decide +kernel) rfl rfl (Nat.le_of_ble_eq_true rfl) dX0_init_11 (fun H locs hP hD hS => ?_)
  have hP : va_P D vwCl [(h0, .inr (0, [.null, .null, .int 0, .int 0, .int 0, .int 0]))] H := hP
  have hD : va_D A [(h0, .inr (0, [.null, .null, .int 0, .int 0, .int 0, .int 0]))] := hD
  refine lv_aload_n hx hb dX0_init_14 rfl (lv_at hl 0 rfl) ?_
  refine lv_iconst (v := 0) hx hb dX0_init_15 (by decide) ?_
  refine va_put (D := D) (ci := 0) (v := .int 0) (ty := .int) (C := RX0) (T := TX0) (N := 6) hx hb hts (fun w h => List.mem_cons_of_mem _ (List.mem_append_right _ h)) tyX0 tyX0_ok nmX0 hown hK hP hD hS 0 rfl rfl 4 (by decide) (hts (.fieldLink RX0 18 "PlankNine$Cuts" "bestSum" "I") (List.mem_of_getElem? (i := 6) rfl)) (fun _ h9 => h9) rfl (by decide +kernel) rfl rfl (Nat.le_of_ble_eq_true rfl) dX0_init_16 (fun H locs hP hD hS => ?_)
  have hP : va_P D vwCl [(h0, .inr (0, [.null, .null, .int 0, .int 0, .int 0, .int 0]))] H := hP
  have hD : va_D A [(h0, .inr (0, [.null, .null, .int 0, .int 0, .int 0, .int 0]))] := hD
  refine lv_aload_n hx hb dX0_init_19 rfl (lv_at hl 0 rfl) ?_
  refine lv_iconst (v := 0) hx hb dX0_init_20 (by decide) ?_
  refine va_put (D := D) (ci := 0) (v := .int 0) (ty := .int) (C := RX0) (T := TX0) (N := 6) hx hb hts (fun w h => List.mem_cons_of_mem _ (List.mem_append_right _ h)) tyX0 tyX0_ok nmX0 hown hK hP hD hS 0 rfl rfl 5 (by decide) (hts (.fieldLink RX0 21 "PlankNine$Cuts" "bestPair" "I") (List.mem_of_getElem? (i := 7) rfl)) (fun _ h9 => h9) rfl (by decide +kernel) rfl rfl (Nat.le_of_ble_eq_true rfl) dX0_init_21 (fun H locs hP hD hS => ?_)
  have hP : va_P D vwCl [(h0, .inr (0, [.null, .null, .int 0, .int 0, .int 0, .int 0]))] H := hP
  have hD : va_D A [(h0, .inr (0, [.null, .null, .int 0, .int 0, .int 0, .int 0]))] := hD
  refine lv_aload_n hx hb dX0_init_24 rfl (lv_at hl 0 rfl) ?_
  refine lv_aload_n hx hb dX0_init_25 rfl (lv_at hl 1 rfl) ?_
  refine va_putF (D := D) (ci := 0) (v := .ref a1) (ty := .object "PlankNine$Marsh") (C := RX0) (T := TX0) (N := 6) hx hb hts (fun w h => List.mem_cons_of_mem _ (List.mem_append_right _ h)) tyX0 tyX0_ok nmX0 hown hK hP hD hS 0 rfl rfl 0 (by decide) (hts (.fieldLink RX0 24 "PlankNine$Cuts" "marsh" "LPlankNine$Marsh;") (List.mem_of_getElem? (i := 8) rfl)) (fun _ h9 => h9) rfl hin rfl (by decide +kernel) rfl rfl (Nat.le_of_ble_eq_true rfl) dX0_init_26 (fun H locs hP hD hS => ?_)
  have hP : va_P D vwCl [(h0, .inr (0, [.ref a1, .null, .int 0, .int 0, .int 0, .int 0]))] H := hP
  have hD : va_D A [(h0, .inr (0, [.ref a1, .null, .int 0, .int 0, .int 0, .int 0]))] := hD
  refine lv_aload_n hx hb dX0_init_29 rfl (lv_at hl 0 rfl) ?_
  refine lv_aload_n hx hb dX0_init_30 rfl (lv_at hl 2 rfl) ?_
  refine va_putF (D := D) (ci := 0) (v := .ref a2) (ty := .object "PlankNine$Now") (C := RX0) (T := TX0) (N := 6) hx hb hts (fun w h => List.mem_cons_of_mem _ (List.mem_append_right _ h)) tyX0 tyX0_ok nmX0 hown hK hP hD hS 0 rfl rfl 1 (by decide) (hts (.fieldLink RX0 28 "PlankNine$Cuts" "now" "LPlankNine$Now;") (List.mem_of_getElem? (i := 9) rfl)) (fun _ h9 => h9) rfl hin rfl (by decide +kernel) rfl rfl (Nat.le_of_ble_eq_true rfl) dX0_init_31 (fun H locs hP hD hS => ?_)
  have hP : va_P D vwCl [(h0, .inr (0, [.ref a1, .ref a2, .int 0, .int 0, .int 0, .int 0]))] H := hP
  have hD : va_D A [(h0, .inr (0, [.ref a1, .ref a2, .int 0, .int 0, .int 0, .int 0]))] := hD
  have hP9 := hP.sub (ws' := [(h0, .inr (0, [.ref a1, .ref a2, .int 0, .int 0, .int 0, .int 0]))]) [0] rfl
  have hD9 := hD.sub (ws' := [(h0, .inr (0, [.ref a1, .ref a2, .int 0, .int 0, .int 0, .int 0]))]) [0] (by decide) rfl
  exact W.vret hx hb hr (fun t ht hW => ⟨⟨(), rfl, trivial, by rw [ht]; exact hP9, hD9⟩, hS.F ht⟩) hS.2.2 dX0_init_34
set_option maxHeartbeats 4000000 in
set_option maxRecDepth 100000 in
theorem c_X6_init (l : Launch) (h0 sz : Nat) (a1 : Nat) (a2 : Nat) : Met l yX6_init wsX6_init ({ frames := 1, cells := 1, slots := 10, locals := 12 }) (va_Pc ([.ref h0, .ref a1, .ref a2]) (preC D cy sz [(h0, .inr (6, [.null, .null, .null]))])) (va_Qv (fun _ : Unit => True) (fun _ t => ∃ (q1 : Nat), va_P D vwCl [(h0, .inr (6, [.ref a1, .ref a2, .ref q1])), (q1, .inl (cy 1, 10, .inl (fun _ => 0)))] t.heap ∧ va_D (va_A [(h0, .inr (6, [.null, .null, .null]))] sz) [(h0, .inr (6, [.ref a1, .ref a2, .ref q1])), (q1, .inl (cy 1, 10, .inl (fun _ => 0)))]) (va_A [(h0, .inr (6, [.null, .null, .null]))] sz)) 1 10 (va_A [(h0, .inr (6, [.null, .null, .null]))] sz) := by
  refine Met.ofW (cc := cX6_init) (maxL := 3) (ret := none) (by decide) rfl ?_
  intro p e s m args below meth c s₁ B hml hv
  obtain ⟨rfl, hsz, hP, hK, hX0, hD0⟩ := hv
  have hx := B.exec
  have hb := B.bytes
  have hr := B.returns
  have hts := atoms_spec (ws := wsX6_init) B.pre
  have hown : s.vm.findClass RX6 = some m.cls := findClass_of_methodNamed B.named
  have hlocks := B.notSynchronized
  have hin : meth.name = "<init>" := (name_of_methodNamed B.named B.method).1
  subst hsz
  have hD := hD0.self (sz := s.heap.size)
  generalize hAe : va_A [(h0, .inr (6, [.null, .null, .null]))] s.heap.size = A at hD ⊢
  have hA : ∀ q : Nat, s.heap.size ≤ q → A q := fun q h => by rw [← hAe]; exact Or.inr h
  have hS : va_S A s.heap s.heap [] := va_S.rf
  have hl := lv_entry ([.ref h0, .ref a1, .ref a2]) (n := 3) (Nat.le_of_ble_eq_true rfl)
  rw [lg_entry_eq]
  generalize (lg_sl ([.ref h0, .ref a1, .ref a2]) ++ List.replicate (3 - (lg_sl ([.ref h0, .ref a1, .ref a2])).length) Slot.unset).toArray = ls at hl ⊢
  have hl : lv_has ls 3 [(0, .ref h0), (1, .ref a1), (2, .ref a2)] := hl
  refine lv_aload_n hx hb dX6_init_0 rfl (lv_at hl 0 rfl) ?_
  refine W.objInit hx hb hown (hts (.methodLink RX6 3 objectInit) (List.mem_of_getElem? (i := 1) rfl)) (hts (.instanceMethod objectInit) (List.mem_of_getElem? (i := 2) rfl)) (hts (.code objectInit ⟨#[0xb1]⟩ 1 none) (List.mem_of_getElem? (i := 3) rfl)) rfl (by rw [hml]; exact hl.1) rfl dX6_init_1 (Nat.le_of_ble_eq_true rfl) (Nat.le_of_ble_eq_true rfl) ?_
  refine W.eq (g2 := F0 m 4 ls []) rfl ?_
  refine lv_aload_n hx hb dX6_init_4 rfl (lv_at hl 0 rfl) ?_
  refine lv_bipush (v := 10) hx hb dX6_init_5 (by decide) ?_
  refine va_newa (atype := .int) (ty := .int) (N' := 10) (n := 10) (a0 := (10, .inl (fun _ => 0))) hx hb (hts (.arrayClass .int) (List.mem_of_getElem? (i := 4) rfl)) rfl hK hP hD hS hA (fun _ => rfl) (by decide) (by decide) (by decide) (Nat.le_of_ble_eq_true rfl) (Nat.le_of_ble_eq_true rfl) dX6_init_7 (fun q1 c2 H hKn hP hD hS => ?_)
  obtain rfl : c2 = cy 1 := ra_int (hKn.2 4 (c2, .int) rfl).2 (hK.2 1 (cy 1, .int) rfl).2
  have hP : va_P D vwCl [(h0, .inr (6, [.null, .null, .null])), (q1, .inl (cy 1, 10, .inl (fun _ => 0)))] H := hP
  have hD : va_D A [(h0, .inr (6, [.null, .null, .null])), (q1, .inl (cy 1, 10, .inl (fun _ => 0)))] := hD
  refine va_putF (D := D) (ci := 6) (v := .ref q1) (ty := .array .int) (C := RX6) (T := TX6) (N := 3) hx hb hts (fun w h => List.mem_cons_of_mem _ (List.mem_append_right _ h)) tyX6 tyX6_ok nmX6 hown hK hP hD hS 0 rfl rfl 2 (by decide) (hts (.fieldLink RX6 9 "PlankNine$Tales" "waysFor" "[I") (List.mem_of_getElem? (i := 5) rfl)) (fun _ h9 => h9) rfl hin rfl (by decide +kernel) rfl rfl (Nat.le_of_ble_eq_true rfl) dX6_init_9 (fun H locs hP hD hS => ?_)
  have hP : va_P D vwCl [(h0, .inr (6, [.null, .null, .ref q1])), (q1, .inl (cy 1, 10, .inl (fun _ => 0)))] H := hP
  have hD : va_D A [(h0, .inr (6, [.null, .null, .ref q1])), (q1, .inl (cy 1, 10, .inl (fun _ => 0)))] := hD
  refine lv_aload_n hx hb dX6_init_12 rfl (lv_at hl 0 rfl) ?_
  refine lv_aload_n hx hb dX6_init_13 rfl (lv_at hl 1 rfl) ?_
  refine va_putF (D := D) (ci := 6) (v := .ref a1) (ty := .object "PlankNine$Marsh") (C := RX6) (T := TX6) (N := 3) hx hb hts (fun w h => List.mem_cons_of_mem _ (List.mem_append_right _ h)) tyX6 tyX6_ok nmX6 hown hK hP hD hS 0 rfl rfl 0 (by decide) (hts (.fieldLink RX6 15 "PlankNine$Tales" "marsh" "LPlankNine$Marsh;") (List.mem_of_getElem? (i := 6) rfl)) (fun _ h9 => h9) rfl hin rfl (by decide +kernel) rfl rfl (Nat.le_of_ble_eq_true rfl) dX6_init_14 (fun H locs hP hD hS => ?_)
  have hP : va_P D vwCl [(h0, .inr (6, [.ref a1, .null, .ref q1])), (q1, .inl (cy 1, 10, .inl (fun _ => 0)))] H := hP
  have hD : va_D A [(h0, .inr (6, [.ref a1, .null, .ref q1])), (q1, .inl (cy 1, 10, .inl (fun _ => 0)))] := hD
  refine lv_aload_n hx hb dX6_init_17 rfl (lv_at hl 0 rfl) ?_
  refine lv_aload_n hx hb dX6_init_18 rfl (lv_at hl 2 rfl) ?_
  refine va_putF (D := D) (ci := 6) (v := .ref a2) (ty := .object "PlankNine$Now") (C := RX6) (T := TX6) (N := 3) hx hb hts (fun w h => List.mem_cons_of_mem _ (List.mem_append_right _ h)) tyX6 tyX6_ok nmX6 hown hK hP hD hS 0 rfl rfl 1 (by decide) (hts (.fieldLink RX6 19 "PlankNine$Tales" "now" "LPlankNine$Now;") (List.mem_of_getElem? (i := 7) rfl)) (fun _ h9 => h9) rfl hin rfl (by decide +kernel) rfl rfl (Nat.le_of_ble_eq_true rfl) dX6_init_19 (fun H locs hP hD hS => ?_)
  have hP : va_P D vwCl [(h0, .inr (6, [.ref a1, .ref a2, .ref q1])), (q1, .inl (cy 1, 10, .inl (fun _ => 0)))] H := hP
  have hD : va_D A [(h0, .inr (6, [.ref a1, .ref a2, .ref q1])), (q1, .inl (cy 1, 10, .inl (fun _ => 0)))] := hD
  have hP9 := hP.sub (ws' := [(h0, .inr (6, [.ref a1, .ref a2, .ref q1])), (q1, .inl (cy 1, 10, .inl (fun _ => 0)))]) [0, 1] rfl
  have hD9 := hD.sub (ws' := [(h0, .inr (6, [.ref a1, .ref a2, .ref q1])), (q1, .inl (cy 1, 10, .inl (fun _ => 0)))]) [0, 1] (by decide) rfl
  exact W.vret hx hb hr (fun t ht hW => ⟨⟨(), rfl, trivial, q1, by rw [ht]; exact hP9, hD9⟩, hS.F ht⟩) hS.2.2 dX6_init_22
set_option maxHeartbeats 4000000 in
set_option maxRecDepth 100000 in
theorem c_X1_init (l : Launch) (h0 sz : Nat) (a1 : Nat) (a2 : Nat) : Met l yX1_init wsX1_init ({ frames := 1, cells := 0, slots := 0, locals := 12 }) (va_Pc ([.ref h0, .ref a1, .ref a2]) (preC D cy sz [(h0, .inr (1, [.null, .null, .long 0]))])) (va_Qv (fun _ : Unit => True) (fun _ t => va_P D vwCl [(h0, .inr (1, [.ref a1, .ref a2, .long 0]))] t.heap ∧ va_D (va_A [(h0, .inr (1, [.null, .null, .long 0]))] sz) [(h0, .inr (1, [.ref a1, .ref a2, .long 0]))]) (va_A [(h0, .inr (1, [.null, .null, .long 0]))] sz)) 0 0 (va_A [(h0, .inr (1, [.null, .null, .long 0]))] sz) := by
  refine Met.ofW (cc := cX1_init) (maxL := 3) (ret := none) (by decide) rfl ?_
  intro p e s m args below meth c s₁ B hml hv
  obtain ⟨rfl, hsz, hP, hK, hX0, hD0⟩ := hv
  have hx := B.exec
  have hb := B.bytes
  have hr := B.returns
  have hts := atoms_spec (ws := wsX1_init) B.pre
  have hown : s.vm.findClass RX1 = some m.cls := findClass_of_methodNamed B.named
  have hlocks := B.notSynchronized
  have hin : meth.name = "<init>" := (name_of_methodNamed B.named B.method).1
  subst hsz
  have hD := hD0.self (sz := s.heap.size)
  generalize hAe : va_A [(h0, .inr (1, [.null, .null, .long 0]))] s.heap.size = A at hD ⊢
  have hA : ∀ q : Nat, s.heap.size ≤ q → A q := fun q h => by rw [← hAe]; exact Or.inr h
  have hS : va_S A s.heap s.heap [] := va_S.rf
  have hl := lv_entry ([.ref h0, .ref a1, .ref a2]) (n := 3) (Nat.le_of_ble_eq_true rfl)
  rw [lg_entry_eq]
  generalize (lg_sl ([.ref h0, .ref a1, .ref a2]) ++ List.replicate (3 - (lg_sl ([.ref h0, .ref a1, .ref a2])).length) Slot.unset).toArray = ls at hl ⊢
  have hl : lv_has ls 3 [(0, .ref h0), (1, .ref a1), (2, .ref a2)] := hl
  refine lv_aload_n hx hb dX1_init_0 rfl (lv_at hl 0 rfl) ?_
  refine W.objInit hx hb hown (hts (.methodLink RX1 3 objectInit) (List.mem_of_getElem? (i := 1) rfl)) (hts (.instanceMethod objectInit) (List.mem_of_getElem? (i := 2) rfl)) (hts (.code objectInit ⟨#[0xb1]⟩ 1 none) (List.mem_of_getElem? (i := 3) rfl)) rfl (by rw [hml]; exact hl.1) rfl dX1_init_1 (Nat.le_of_ble_eq_true rfl) (Nat.le_of_ble_eq_true rfl) ?_
  refine W.eq (g2 := F0 m 4 ls []) rfl ?_
  refine lv_aload_n hx hb dX1_init_4 rfl (lv_at hl 0 rfl) ?_
  refine lv_lconst (v := 0) hx hb dX1_init_5 (by decide) ?_
  refine va_put (D := D) (ci := 1) (v := .long 0) (ty := .long) (C := RX1) (T := TX1) (N := 3) hx hb hts (fun w h => List.mem_cons_of_mem _ (List.mem_append_right _ h)) tyX1 tyX1_ok nmX1 hown hK hP hD hS 0 rfl rfl 2 (by decide) (hts (.fieldLink RX1 9 "PlankNine$Kinds" "traced" "J") (List.mem_of_getElem? (i := 4) rfl)) (fun _ h9 => h9) rfl (by decide +kernel) rfl rfl (Nat.le_of_ble_eq_true rfl) dX1_init_6 (fun H locs hP hD hS => ?_)
  have hP : va_P D vwCl [(h0, .inr (1, [.null, .null, .long 0]))] H := hP
  have hD : va_D A [(h0, .inr (1, [.null, .null, .long 0]))] := hD
  refine lv_aload_n hx hb dX1_init_9 rfl (lv_at hl 0 rfl) ?_
  refine lv_aload_n hx hb dX1_init_10 rfl (lv_at hl 1 rfl) ?_
  refine va_putF (D := D) (ci := 1) (v := .ref a1) (ty := .object "PlankNine$Marsh") (C := RX1) (T := TX1) (N := 3) hx hb hts (fun w h => List.mem_cons_of_mem _ (List.mem_append_right _ h)) tyX1 tyX1_ok nmX1 hown hK hP hD hS 0 rfl rfl 0 (by decide) (hts (.fieldLink RX1 15 "PlankNine$Kinds" "marsh" "LPlankNine$Marsh;") (List.mem_of_getElem? (i := 5) rfl)) (fun _ h9 => h9) rfl hin rfl (by decide +kernel) rfl rfl (Nat.le_of_ble_eq_true rfl) dX1_init_11 (fun H locs hP hD hS => ?_)
  have hP : va_P D vwCl [(h0, .inr (1, [.ref a1, .null, .long 0]))] H := hP
  have hD : va_D A [(h0, .inr (1, [.ref a1, .null, .long 0]))] := hD
  refine lv_aload_n hx hb dX1_init_14 rfl (lv_at hl 0 rfl) ?_
  refine lv_aload_n hx hb dX1_init_15 rfl (lv_at hl 2 rfl) ?_
  refine va_putF (D := D) (ci := 1) (v := .ref a2) (ty := .object "PlankNine$Now") (C := RX1) (T := TX1) (N := 3) hx hb hts (fun w h => List.mem_cons_of_mem _ (List.mem_append_right _ h)) tyX1 tyX1_ok nmX1 hown hK hP hD hS 0 rfl rfl 1 (by decide) (hts (.fieldLink RX1 19 "PlankNine$Kinds" "now" "LPlankNine$Now;") (List.mem_of_getElem? (i := 6) rfl)) (fun _ h9 => h9) rfl hin rfl (by decide +kernel) rfl rfl (Nat.le_of_ble_eq_true rfl) dX1_init_16 (fun H locs hP hD hS => ?_)
  have hP : va_P D vwCl [(h0, .inr (1, [.ref a1, .ref a2, .long 0]))] H := hP
  have hD : va_D A [(h0, .inr (1, [.ref a1, .ref a2, .long 0]))] := hD
  have hP9 := hP.sub (ws' := [(h0, .inr (1, [.ref a1, .ref a2, .long 0]))]) [0] rfl
  have hD9 := hD.sub (ws' := [(h0, .inr (1, [.ref a1, .ref a2, .long 0]))]) [0] (by decide) rfl
  exact W.vret hx hb hr (fun t ht hW => ⟨⟨(), rfl, trivial, by rw [ht]; exact hP9, hD9⟩, hS.F ht⟩) hS.2.2 dX1_init_19
set_option maxHeartbeats 4000000 in
set_option maxRecDepth 100000 in
theorem c_X4_init (l : Launch) (h0 sz : Nat) (a1 : Nat) : Met l yX4_init wsX4_init ({ frames := 2, cells := 10, slots := 59, locals := 32 }) (va_Pc ([.ref h0, .ref a1]) (preC D cy sz [(h0, .inr (4, [.null, .null, .int 0, .int 0, .int 0, .int 0, .null]))])) (va_Qv (fun _ : Unit => True) (fun _ t => ∃ (q1 : Nat) (q2 : Nat) (q3 : Nat) (q4 : Nat) (q5 : Nat) (q6 : Nat) (q7 : Nat) (q8 : Nat) (q9 : Nat) (q10 : Nat), va_P D vwCl [(h0, .inr (4, [.ref a1, .ref q1, .int 1, .int 0, .int 0, .int 0, .ref q10])), (q1, .inr (2, [.int 4, .int 0, .int 0, .int 0, .ref q2, .ref q3, .ref q4, .ref q5, .ref q6, .ref q7, .ref q8, .ref q9])), (q2, .inl (cy 1, 9, .inl (fun _ => 0))), (q3, .inl (cy 1, 9, .inl (fun _ => 0))), (q4, .inl (cy 1, 9, .inl (fun _ => 0))), (q5, .inl (cy 1, 4, .inl (fun _ => 0))), (q6, .inl (cy 1, 4, .inl (fun _ => 0))), (q7, .inl (cy 1, 3, .inl (fun _ => 0))), (q8, .inl (cy 1, 3, .inl (fun _ => 0))), (q9, .inl (cy 1, 3, .inl (fun _ => 0))), (q10, .inl (cy 1, 3, .inl (fun _ => 0)))] t.heap ∧ va_D (va_A [(h0, .inr (4, [.null, .null, .int 0, .int 0, .int 0, .int 0, .null]))] sz) [(h0, .inr (4, [.ref a1, .ref q1, .int 1, .int 0, .int 0, .int 0, .ref q10])), (q1, .inr (2, [.int 4, .int 0, .int 0, .int 0, .ref q2, .ref q3, .ref q4, .ref q5, .ref q6, .ref q7, .ref q8, .ref q9])), (q2, .inl (cy 1, 9, .inl (fun _ => 0))), (q3, .inl (cy 1, 9, .inl (fun _ => 0))), (q4, .inl (cy 1, 9, .inl (fun _ => 0))), (q5, .inl (cy 1, 4, .inl (fun _ => 0))), (q6, .inl (cy 1, 4, .inl (fun _ => 0))), (q7, .inl (cy 1, 3, .inl (fun _ => 0))), (q8, .inl (cy 1, 3, .inl (fun _ => 0))), (q9, .inl (cy 1, 3, .inl (fun _ => 0))), (q10, .inl (cy 1, 3, .inl (fun _ => 0)))]) (va_A [(h0, .inr (4, [.null, .null, .int 0, .int 0, .int 0, .int 0, .null]))] sz)) 10 59 (va_A [(h0, .inr (4, [.null, .null, .int 0, .int 0, .int 0, .int 0, .null]))] sz) := by
  refine Met.ofW (cc := cX4_init) (maxL := 2) (ret := none) (by decide) rfl ?_
  intro p e s m args below meth c s₁ B hml hv
  obtain ⟨rfl, hsz, hP, hK, hX0, hD0⟩ := hv
  have hx := B.exec
  have hb := B.bytes
  have hr := B.returns
  have hts := atoms_spec (ws := wsX4_init) B.pre
  have hown : s.vm.findClass RX4 = some m.cls := findClass_of_methodNamed B.named
  have hlocks := B.notSynchronized
  have hin : meth.name = "<init>" := (name_of_methodNamed B.named B.method).1
  subst hsz
  have hD := hD0.self (sz := s.heap.size)
  generalize hAe : va_A [(h0, .inr (4, [.null, .null, .int 0, .int 0, .int 0, .int 0, .null]))] s.heap.size = A at hD ⊢
  have hA : ∀ q : Nat, s.heap.size ≤ q → A q := fun q h => by rw [← hAe]; exact Or.inr h
  have hS : va_S A s.heap s.heap [] := va_S.rf
  have hl := lv_entry ([.ref h0, .ref a1]) (n := 2) (Nat.le_of_ble_eq_true rfl)
  rw [lg_entry_eq]
  generalize (lg_sl ([.ref h0, .ref a1]) ++ List.replicate (2 - (lg_sl ([.ref h0, .ref a1])).length) Slot.unset).toArray = ls at hl ⊢
  have hl : lv_has ls 2 [(0, .ref h0), (1, .ref a1)] := hl
  refine lv_aload_n hx hb dX4_init_0 rfl (lv_at hl 0 rfl) ?_
  refine W.objInit hx hb hown (hts (.methodLink RX4 3 objectInit) (List.mem_of_getElem? (i := 1) rfl)) (hts (.instanceMethod objectInit) (List.mem_of_getElem? (i := 2) rfl)) (hts (.code objectInit ⟨#[0xb1]⟩ 1 none) (List.mem_of_getElem? (i := 3) rfl)) rfl (by rw [hml]; exact hl.1) rfl dX4_init_1 (Nat.le_of_ble_eq_true rfl) (Nat.le_of_ble_eq_true rfl) ?_
  refine W.eq (g2 := F0 m 4 ls []) rfl ?_
  refine lv_aload_n hx hb dX4_init_4 rfl (lv_at hl 0 rfl) ?_
  refine va_new (ci := 2) (fs := [.int 0, .int 0, .int 0, .int 0, .null, .null, .null, .null, .null, .null, .null, .null]) (C := RX2) (T := TX2) (N := 12) hx hb hts (fun w h => List.mem_cons_of_mem _ (List.mem_append_left _ (List.mem_append_right _ h))) tyX2 tyX2_ok hown (hts (.classLink RX4 9 RX2) (List.mem_of_getElem? (i := 4) rfl)) (hts (.instantiable RX2 12) (List.mem_of_getElem? (i := 5) rfl)) (hts (.initialized RX2) (List.mem_of_getElem? (i := 6) rfl)) hK hP hD hS hA rfl (fun j hj => by rcases (show j = 0 ∨ j = 1 ∨ j = 2 ∨ j = 3 ∨ j = 4 ∨ j = 5 ∨ j = 6 ∨ j = 7 ∨ j = 8 ∨ j = 9 ∨ j = 10 ∨ j = 11 by omega) with rfl | rfl | rfl | rfl | rfl | rfl | rfl | rfl | rfl | rfl | rfl | rfl <;> rfl) (Nat.le_of_ble_eq_true rfl) (Nat.le_of_ble_eq_true rfl) dX4_init_5 (fun q1 H hP hD hS => ?_)
  have hP : va_P D vwCl [(h0, .inr (4, [.null, .null, .int 0, .int 0, .int 0, .int 0, .null])), (q1, .inr (2, [.int 0, .int 0, .int 0, .int 0, .null, .null, .null, .null, .null, .null, .null, .null]))] H := hP
  have hD : va_D A [(h0, .inr (4, [.null, .null, .int 0, .int 0, .int 0, .int 0, .null])), (q1, .inr (2, [.int 0, .int 0, .int 0, .int 0, .null, .null, .null, .null, .null, .null, .null, .null]))] := hD
  refine lv_dup hx hb dX4_init_8 rfl ?_
  have hPc := hP.sub (ws' := [(q1, .inr (2, [.int 0, .int 0, .int 0, .int 0, .null, .null, .null, .null, .null, .null, .null, .null]))]) [1] rfl
  have hDc := hD.sub (ws' := [(q1, .inr (2, [.int 0, .int 0, .int 0, .int 0, .null, .null, .null, .null, .null, .null, .null, .null]))]) [1] (by decide) rfl
  have hFc := va_free (wc := [(q1, .inr (2, [.int 0, .int 0, .int 0, .int 0, .null, .null, .null, .null, .null, .null, .null, .null]))]) hD hS hA [1] rfl
  refine va_callv (va_runIN (As := []) (rest := [.ref q1, .ref h0]) ⟨hx, hb, hml, hown, hts⟩ (c_X2_init l q1 H.size) ⟨va_cnB 0 hts gX4_init_X2_init_n11 rfl rfl rfl (nlMC_2 hX0) (hts (.initialized RX2) (List.mem_of_getElem? (i := 6) rfl)) (by decide +kernel) ⟨Nat.le_of_ble_eq_true rfl, Nat.le_of_ble_eq_true rfl⟩, rfl, hts (.instanceMethod yX2_init) (List.mem_of_getElem? (i := 15) rfl)⟩ ⟨preC_blind, preC_go hK hX0 hPc hDc _⟩ rfl rfl hl.1 rfl (lv_room (Nat.le_of_ble_eq_true rfl)) dX4_init_9 ⟨Nat.le_of_ble_eq_true rfl, Nat.le_of_ble_eq_true rfl⟩) hS (fun q _ h => hFc q h) hFc (fun u t H1 locs ht hvm hw hB hz1 hk1 hS => ?_)
  obtain ⟨q2, q3, q4, q5, q6, q7, q8, q9, hP1, hD1⟩ := hB
  rw [ht] at hP1
  obtain ⟨hP, hD⟩ := va_join (wr := [(h0, .inr (4, [.null, .null, .int 0, .int 0, .int 0, .int 0, .null]))]) (w1 := [(q1, .inr (2, [.int 4, .int 0, .int 0, .int 0, .ref q2, .ref q3, .ref q4, .ref q5, .ref q6, .ref q7, .ref q8, .ref q9])), (q2, .inl (cy 1, 9, .inl (fun _ => 0))), (q3, .inl (cy 1, 9, .inl (fun _ => 0))), (q4, .inl (cy 1, 9, .inl (fun _ => 0))), (q5, .inl (cy 1, 4, .inl (fun _ => 0))), (q6, .inl (cy 1, 4, .inl (fun _ => 0))), (q7, .inl (cy 1, 3, .inl (fun _ => 0))), (q8, .inl (cy 1, 3, .inl (fun _ => 0))), (q9, .inl (cy 1, 3, .inl (fun _ => 0)))]) hP hD [1] [0] rfl rfl (by decide) (by decide) hk1 hFc hP1 hD1
  generalize H1 = H at hP hS ⊢
  have hP : va_P D vwCl [(h0, .inr (4, [.null, .null, .int 0, .int 0, .int 0, .int 0, .null])), (q1, .inr (2, [.int 4, .int 0, .int 0, .int 0, .ref q2, .ref q3, .ref q4, .ref q5, .ref q6, .ref q7, .ref q8, .ref q9])), (q2, .inl (cy 1, 9, .inl (fun _ => 0))), (q3, .inl (cy 1, 9, .inl (fun _ => 0))), (q4, .inl (cy 1, 9, .inl (fun _ => 0))), (q5, .inl (cy 1, 4, .inl (fun _ => 0))), (q6, .inl (cy 1, 4, .inl (fun _ => 0))), (q7, .inl (cy 1, 3, .inl (fun _ => 0))), (q8, .inl (cy 1, 3, .inl (fun _ => 0))), (q9, .inl (cy 1, 3, .inl (fun _ => 0)))] H := hP
  have hD : va_D A [(h0, .inr (4, [.null, .null, .int 0, .int 0, .int 0, .int 0, .null])), (q1, .inr (2, [.int 4, .int 0, .int 0, .int 0, .ref q2, .ref q3, .ref q4, .ref q5, .ref q6, .ref q7, .ref q8, .ref q9])), (q2, .inl (cy 1, 9, .inl (fun _ => 0))), (q3, .inl (cy 1, 9, .inl (fun _ => 0))), (q4, .inl (cy 1, 9, .inl (fun _ => 0))), (q5, .inl (cy 1, 4, .inl (fun _ => 0))), (q6, .inl (cy 1, 4, .inl (fun _ => 0))), (q7, .inl (cy 1, 3, .inl (fun _ => 0))), (q8, .inl (cy 1, 3, .inl (fun _ => 0))), (q9, .inl (cy 1, 3, .inl (fun _ => 0)))] := hD
  refine va_putF (D := D) (ci := 4) (v := .ref q1) (ty := .object "PlankNine$Marsh") (C := RX4) (T := TX4) (N := 7) hx hb hts (fun w h => List.mem_cons_of_mem _ (List.mem_append_right _ h)) tyX4 tyX4_ok nmX4 hown hK hP hD hS 0 rfl rfl 1 (by decide) (hts (.fieldLink RX4 12 "PlankNine$Reader" "draft" "LPlankNine$Marsh;") (List.mem_of_getElem? (i := 7) rfl)) (fun _ h9 => h9) rfl hin rfl (by decide +kernel) rfl rfl (Nat.le_of_ble_eq_true rfl) dX4_init_12 (fun H locs hP hD hS => ?_)
  have hP : va_P D vwCl [(h0, .inr (4, [.null, .ref q1, .int 0, .int 0, .int 0, .int 0, .null])), (q1, .inr (2, [.int 4, .int 0, .int 0, .int 0, .ref q2, .ref q3, .ref q4, .ref q5, .ref q6, .ref q7, .ref q8, .ref q9])), (q2, .inl (cy 1, 9, .inl (fun _ => 0))), (q3, .inl (cy 1, 9, .inl (fun _ => 0))), (q4, .inl (cy 1, 9, .inl (fun _ => 0))), (q5, .inl (cy 1, 4, .inl (fun _ => 0))), (q6, .inl (cy 1, 4, .inl (fun _ => 0))), (q7, .inl (cy 1, 3, .inl (fun _ => 0))), (q8, .inl (cy 1, 3, .inl (fun _ => 0))), (q9, .inl (cy 1, 3, .inl (fun _ => 0)))] H := hP
  have hD : va_D A [(h0, .inr (4, [.null, .ref q1, .int 0, .int 0, .int 0, .int 0, .null])), (q1, .inr (2, [.int 4, .int 0, .int 0, .int 0, .ref q2, .ref q3, .ref q4, .ref q5, .ref q6, .ref q7, .ref q8, .ref q9])), (q2, .inl (cy 1, 9, .inl (fun _ => 0))), (q3, .inl (cy 1, 9, .inl (fun _ => 0))), (q4, .inl (cy 1, 9, .inl (fun _ => 0))), (q5, .inl (cy 1, 4, .inl (fun _ => 0))), (q6, .inl (cy 1, 4, .inl (fun _ => 0))), (q7, .inl (cy 1, 3, .inl (fun _ => 0))), (q8, .inl (cy 1, 3, .inl (fun _ => 0))), (q9, .inl (cy 1, 3, .inl (fun _ => 0)))] := hD
  refine lv_aload_n hx hb dX4_init_15 rfl (lv_at hl 0 rfl) ?_
  refine lv_iconst (v := 1) hx hb dX4_init_16 (by decide) ?_
  refine va_put (D := D) (ci := 4) (v := .int 1) (ty := .int) (C := RX4) (T := TX4) (N := 7) hx hb hts (fun w h => List.mem_cons_of_mem _ (List.mem_append_right _ h)) tyX4 tyX4_ok nmX4 hown hK hP hD hS 0 rfl rfl 2 (by decide) (hts (.fieldLink RX4 18 "PlankNine$Reader" "token" "I") (List.mem_of_getElem? (i := 8) rfl)) (fun _ h9 => h9) rfl (by decide +kernel) rfl rfl (Nat.le_of_ble_eq_true rfl) dX4_init_17 (fun H locs hP hD hS => ?_)
  have hP : va_P D vwCl [(h0, .inr (4, [.null, .ref q1, .int 1, .int 0, .int 0, .int 0, .null])), (q1, .inr (2, [.int 4, .int 0, .int 0, .int 0, .ref q2, .ref q3, .ref q4, .ref q5, .ref q6, .ref q7, .ref q8, .ref q9])), (q2, .inl (cy 1, 9, .inl (fun _ => 0))), (q3, .inl (cy 1, 9, .inl (fun _ => 0))), (q4, .inl (cy 1, 9, .inl (fun _ => 0))), (q5, .inl (cy 1, 4, .inl (fun _ => 0))), (q6, .inl (cy 1, 4, .inl (fun _ => 0))), (q7, .inl (cy 1, 3, .inl (fun _ => 0))), (q8, .inl (cy 1, 3, .inl (fun _ => 0))), (q9, .inl (cy 1, 3, .inl (fun _ => 0)))] H := hP
  have hD : va_D A [(h0, .inr (4, [.null, .ref q1, .int 1, .int 0, .int 0, .int 0, .null])), (q1, .inr (2, [.int 4, .int 0, .int 0, .int 0, .ref q2, .ref q3, .ref q4, .ref q5, .ref q6, .ref q7, .ref q8, .ref q9])), (q2, .inl (cy 1, 9, .inl (fun _ => 0))), (q3, .inl (cy 1, 9, .inl (fun _ => 0))), (q4, .inl (cy 1, 9, .inl (fun _ => 0))), (q5, .inl (cy 1, 4, .inl (fun _ => 0))), (q6, .inl (cy 1, 4, .inl (fun _ => 0))), (q7, .inl (cy 1, 3, .inl (fun _ => 0))), (q8, .inl (cy 1, 3, .inl (fun _ => 0))), (q9, .inl (cy 1, 3, .inl (fun _ => 0)))] := hD
  refine lv_aload_n hx hb dX4_init_20 rfl (lv_at hl 0 rfl) ?_
  refine lv_iconst (v := 0) hx hb dX4_init_21 (by decide) ?_
  refine va_put (D := D) (ci := 4) (v := .int 0) (ty := .int) (C := RX4) (T := TX4) (N := 7) hx hb hts (fun w h => List.mem_cons_of_mem _ (List.mem_append_right _ h)) tyX4 tyX4_ok nmX4 hown hK hP hD hS 0 rfl rfl 3 (by decide) (hts (.fieldLink RX4 22 "PlankNine$Reader" "start" "I") (List.mem_of_getElem? (i := 9) rfl)) (fun _ h9 => h9) rfl (by decide +kernel) rfl rfl (Nat.le_of_ble_eq_true rfl) dX4_init_22 (fun H locs hP hD hS => ?_)
  have hP : va_P D vwCl [(h0, .inr (4, [.null, .ref q1, .int 1, .int 0, .int 0, .int 0, .null])), (q1, .inr (2, [.int 4, .int 0, .int 0, .int 0, .ref q2, .ref q3, .ref q4, .ref q5, .ref q6, .ref q7, .ref q8, .ref q9])), (q2, .inl (cy 1, 9, .inl (fun _ => 0))), (q3, .inl (cy 1, 9, .inl (fun _ => 0))), (q4, .inl (cy 1, 9, .inl (fun _ => 0))), (q5, .inl (cy 1, 4, .inl (fun _ => 0))), (q6, .inl (cy 1, 4, .inl (fun _ => 0))), (q7, .inl (cy 1, 3, .inl (fun _ => 0))), (q8, .inl (cy 1, 3, .inl (fun _ => 0))), (q9, .inl (cy 1, 3, .inl (fun _ => 0)))] H := hP
  have hD : va_D A [(h0, .inr (4, [.null, .ref q1, .int 1, .int 0, .int 0, .int 0, .null])), (q1, .inr (2, [.int 4, .int 0, .int 0, .int 0, .ref q2, .ref q3, .ref q4, .ref q5, .ref q6, .ref q7, .ref q8, .ref q9])), (q2, .inl (cy 1, 9, .inl (fun _ => 0))), (q3, .inl (cy 1, 9, .inl (fun _ => 0))), (q4, .inl (cy 1, 9, .inl (fun _ => 0))), (q5, .inl (cy 1, 4, .inl (fun _ => 0))), (q6, .inl (cy 1, 4, .inl (fun _ => 0))), (q7, .inl (cy 1, 3, .inl (fun _ => 0))), (q8, .inl (cy 1, 3, .inl (fun _ => 0))), (q9, .inl (cy 1, 3, .inl (fun _ => 0)))] := hD
  refine lv_aload_n hx hb dX4_init_25 rfl (lv_at hl 0 rfl) ?_
  refine lv_iconst (v := 0) hx hb dX4_init_26 (by decide) ?_
  refine va_put (D := D) (ci := 4) (v := .int 0) (ty := .int) (C := RX4) (T := TX4) (N := 7) hx hb hts (fun w h => List.mem_cons_of_mem _ (List.mem_append_right _ h)) tyX4 tyX4_ok nmX4 hown hK hP hD hS 0 rfl rfl 4 (by decide) (hts (.fieldLink RX4 25 "PlankNine$Reader" "behind" "I") (List.mem_of_getElem? (i := 10) rfl)) (fun _ h9 => h9) rfl (by decide +kernel) rfl rfl (Nat.le_of_ble_eq_true rfl) dX4_init_27 (fun H locs hP hD hS => ?_)
  have hP : va_P D vwCl [(h0, .inr (4, [.null, .ref q1, .int 1, .int 0, .int 0, .int 0, .null])), (q1, .inr (2, [.int 4, .int 0, .int 0, .int 0, .ref q2, .ref q3, .ref q4, .ref q5, .ref q6, .ref q7, .ref q8, .ref q9])), (q2, .inl (cy 1, 9, .inl (fun _ => 0))), (q3, .inl (cy 1, 9, .inl (fun _ => 0))), (q4, .inl (cy 1, 9, .inl (fun _ => 0))), (q5, .inl (cy 1, 4, .inl (fun _ => 0))), (q6, .inl (cy 1, 4, .inl (fun _ => 0))), (q7, .inl (cy 1, 3, .inl (fun _ => 0))), (q8, .inl (cy 1, 3, .inl (fun _ => 0))), (q9, .inl (cy 1, 3, .inl (fun _ => 0)))] H := hP
  have hD : va_D A [(h0, .inr (4, [.null, .ref q1, .int 1, .int 0, .int 0, .int 0, .null])), (q1, .inr (2, [.int 4, .int 0, .int 0, .int 0, .ref q2, .ref q3, .ref q4, .ref q5, .ref q6, .ref q7, .ref q8, .ref q9])), (q2, .inl (cy 1, 9, .inl (fun _ => 0))), (q3, .inl (cy 1, 9, .inl (fun _ => 0))), (q4, .inl (cy 1, 9, .inl (fun _ => 0))), (q5, .inl (cy 1, 4, .inl (fun _ => 0))), (q6, .inl (cy 1, 4, .inl (fun _ => 0))), (q7, .inl (cy 1, 3, .inl (fun _ => 0))), (q8, .inl (cy 1, 3, .inl (fun _ => 0))), (q9, .inl (cy 1, 3, .inl (fun _ => 0)))] := hD
  refine lv_aload_n hx hb dX4_init_30 rfl (lv_at hl 0 rfl) ?_
  refine lv_iconst (v := 0) hx hb dX4_init_31 (by decide) ?_
  refine va_put (D := D) (ci := 4) (v := .int 0) (ty := .int) (C := RX4) (T := TX4) (N := 7) hx hb hts (fun w h => List.mem_cons_of_mem _ (List.mem_append_right _ h)) tyX4 tyX4_ok nmX4 hown hK hP hD hS 0 rfl rfl 5 (by decide) (hts (.fieldLink RX4 28 "PlankNine$Reader" "value" "I") (List.mem_of_getElem? (i := 11) rfl)) (fun _ h9 => h9) rfl (by decide +kernel) rfl rfl (Nat.le_of_ble_eq_true rfl) dX4_init_32 (fun H locs hP hD hS => ?_)
  have hP : va_P D vwCl [(h0, .inr (4, [.null, .ref q1, .int 1, .int 0, .int 0, .int 0, .null])), (q1, .inr (2, [.int 4, .int 0, .int 0, .int 0, .ref q2, .ref q3, .ref q4, .ref q5, .ref q6, .ref q7, .ref q8, .ref q9])), (q2, .inl (cy 1, 9, .inl (fun _ => 0))), (q3, .inl (cy 1, 9, .inl (fun _ => 0))), (q4, .inl (cy 1, 9, .inl (fun _ => 0))), (q5, .inl (cy 1, 4, .inl (fun _ => 0))), (q6, .inl (cy 1, 4, .inl (fun _ => 0))), (q7, .inl (cy 1, 3, .inl (fun _ => 0))), (q8, .inl (cy 1, 3, .inl (fun _ => 0))), (q9, .inl (cy 1, 3, .inl (fun _ => 0)))] H := hP
  have hD : va_D A [(h0, .inr (4, [.null, .ref q1, .int 1, .int 0, .int 0, .int 0, .null])), (q1, .inr (2, [.int 4, .int 0, .int 0, .int 0, .ref q2, .ref q3, .ref q4, .ref q5, .ref q6, .ref q7, .ref q8, .ref q9])), (q2, .inl (cy 1, 9, .inl (fun _ => 0))), (q3, .inl (cy 1, 9, .inl (fun _ => 0))), (q4, .inl (cy 1, 9, .inl (fun _ => 0))), (q5, .inl (cy 1, 4, .inl (fun _ => 0))), (q6, .inl (cy 1, 4, .inl (fun _ => 0))), (q7, .inl (cy 1, 3, .inl (fun _ => 0))), (q8, .inl (cy 1, 3, .inl (fun _ => 0))), (q9, .inl (cy 1, 3, .inl (fun _ => 0)))] := hD
  refine lv_aload_n hx hb dX4_init_35 rfl (lv_at hl 0 rfl) ?_
  refine lv_iconst (v := 3) hx hb dX4_init_36 (by decide) ?_
  refine va_newa (atype := .int) (ty := .int) (N' := 3) (n := 3) (a0 := (3, .inl (fun _ => 0))) hx hb (hts (.arrayClass .int) (List.mem_of_getElem? (i := 12) rfl)) rfl hK hP hD hS hA (fun _ => rfl) (by decide) (by decide) (by decide) (Nat.le_of_ble_eq_true rfl) (Nat.le_of_ble_eq_true rfl) dX4_init_37 (fun q10 c11 H hKn hP hD hS => ?_)
  obtain rfl : c11 = cy 1 := ra_int (hKn.2 4 (c11, .int) rfl).2 (hK.2 1 (cy 1, .int) rfl).2
  have hP : va_P D vwCl [(h0, .inr (4, [.null, .ref q1, .int 1, .int 0, .int 0, .int 0, .null])), (q1, .inr (2, [.int 4, .int 0, .int 0, .int 0, .ref q2, .ref q3, .ref q4, .ref q5, .ref q6, .ref q7, .ref q8, .ref q9])), (q2, .inl (cy 1, 9, .inl (fun _ => 0))), (q3, .inl (cy 1, 9, .inl (fun _ => 0))), (q4, .inl (cy 1, 9, .inl (fun _ => 0))), (q5, .inl (cy 1, 4, .inl (fun _ => 0))), (q6, .inl (cy 1, 4, .inl (fun _ => 0))), (q7, .inl (cy 1, 3, .inl (fun _ => 0))), (q8, .inl (cy 1, 3, .inl (fun _ => 0))), (q9, .inl (cy 1, 3, .inl (fun _ => 0))), (q10, .inl (cy 1, 3, .inl (fun _ => 0)))] H := hP
  have hD : va_D A [(h0, .inr (4, [.null, .ref q1, .int 1, .int 0, .int 0, .int 0, .null])), (q1, .inr (2, [.int 4, .int 0, .int 0, .int 0, .ref q2, .ref q3, .ref q4, .ref q5, .ref q6, .ref q7, .ref q8, .ref q9])), (q2, .inl (cy 1, 9, .inl (fun _ => 0))), (q3, .inl (cy 1, 9, .inl (fun _ => 0))), (q4, .inl (cy 1, 9, .inl (fun _ => 0))), (q5, .inl (cy 1, 4, .inl (fun _ => 0))), (q6, .inl (cy 1, 4, .inl (fun _ => 0))), (q7, .inl (cy 1, 3, .inl (fun _ => 0))), (q8, .inl (cy 1, 3, .inl (fun _ => 0))), (q9, .inl (cy 1, 3, .inl (fun _ => 0))), (q10, .inl (cy 1, 3, .inl (fun _ => 0)))] := hD
  refine va_putF (D := D) (ci := 4) (v := .ref q10) (ty := .array .int) (C := RX4) (T := TX4) (N := 7) hx hb hts (fun w h => List.mem_cons_of_mem _ (List.mem_append_right _ h)) tyX4 tyX4_ok nmX4 hown hK hP hD hS 0 rfl rfl 6 (by decide) (hts (.fieldLink RX4 31 "PlankNine$Reader" "numbers" "[I") (List.mem_of_getElem? (i := 13) rfl)) (fun _ h9 => h9) rfl hin rfl (by decide +kernel) rfl rfl (Nat.le_of_ble_eq_true rfl) dX4_init_39 (fun H locs hP hD hS => ?_)
  have hP : va_P D vwCl [(h0, .inr (4, [.null, .ref q1, .int 1, .int 0, .int 0, .int 0, .ref q10])), (q1, .inr (2, [.int 4, .int 0, .int 0, .int 0, .ref q2, .ref q3, .ref q4, .ref q5, .ref q6, .ref q7, .ref q8, .ref q9])), (q2, .inl (cy 1, 9, .inl (fun _ => 0))), (q3, .inl (cy 1, 9, .inl (fun _ => 0))), (q4, .inl (cy 1, 9, .inl (fun _ => 0))), (q5, .inl (cy 1, 4, .inl (fun _ => 0))), (q6, .inl (cy 1, 4, .inl (fun _ => 0))), (q7, .inl (cy 1, 3, .inl (fun _ => 0))), (q8, .inl (cy 1, 3, .inl (fun _ => 0))), (q9, .inl (cy 1, 3, .inl (fun _ => 0))), (q10, .inl (cy 1, 3, .inl (fun _ => 0)))] H := hP
  have hD : va_D A [(h0, .inr (4, [.null, .ref q1, .int 1, .int 0, .int 0, .int 0, .ref q10])), (q1, .inr (2, [.int 4, .int 0, .int 0, .int 0, .ref q2, .ref q3, .ref q4, .ref q5, .ref q6, .ref q7, .ref q8, .ref q9])), (q2, .inl (cy 1, 9, .inl (fun _ => 0))), (q3, .inl (cy 1, 9, .inl (fun _ => 0))), (q4, .inl (cy 1, 9, .inl (fun _ => 0))), (q5, .inl (cy 1, 4, .inl (fun _ => 0))), (q6, .inl (cy 1, 4, .inl (fun _ => 0))), (q7, .inl (cy 1, 3, .inl (fun _ => 0))), (q8, .inl (cy 1, 3, .inl (fun _ => 0))), (q9, .inl (cy 1, 3, .inl (fun _ => 0))), (q10, .inl (cy 1, 3, .inl (fun _ => 0)))] := hD
  refine lv_aload_n hx hb dX4_init_42 rfl (lv_at hl 0 rfl) ?_
  refine lv_aload_n hx hb dX4_init_43 rfl (lv_at hl 1 rfl) ?_
  refine va_putF (D := D) (ci := 4) (v := .ref a1) (ty := .object "PlankNine$Text") (C := RX4) (T := TX4) (N := 7) hx hb hts (fun w h => List.mem_cons_of_mem _ (List.mem_append_right _ h)) tyX4 tyX4_ok nmX4 hown hK hP hD hS 0 rfl rfl 0 (by decide) (hts (.fieldLink RX4 35 "PlankNine$Reader" "text" "LPlankNine$Text;") (List.mem_of_getElem? (i := 14) rfl)) (fun _ h9 => h9) rfl hin rfl (by decide +kernel) rfl rfl (Nat.le_of_ble_eq_true rfl) dX4_init_44 (fun H locs hP hD hS => ?_)
  have hP : va_P D vwCl [(h0, .inr (4, [.ref a1, .ref q1, .int 1, .int 0, .int 0, .int 0, .ref q10])), (q1, .inr (2, [.int 4, .int 0, .int 0, .int 0, .ref q2, .ref q3, .ref q4, .ref q5, .ref q6, .ref q7, .ref q8, .ref q9])), (q2, .inl (cy 1, 9, .inl (fun _ => 0))), (q3, .inl (cy 1, 9, .inl (fun _ => 0))), (q4, .inl (cy 1, 9, .inl (fun _ => 0))), (q5, .inl (cy 1, 4, .inl (fun _ => 0))), (q6, .inl (cy 1, 4, .inl (fun _ => 0))), (q7, .inl (cy 1, 3, .inl (fun _ => 0))), (q8, .inl (cy 1, 3, .inl (fun _ => 0))), (q9, .inl (cy 1, 3, .inl (fun _ => 0))), (q10, .inl (cy 1, 3, .inl (fun _ => 0)))] H := hP
  have hD : va_D A [(h0, .inr (4, [.ref a1, .ref q1, .int 1, .int 0, .int 0, .int 0, .ref q10])), (q1, .inr (2, [.int 4, .int 0, .int 0, .int 0, .ref q2, .ref q3, .ref q4, .ref q5, .ref q6, .ref q7, .ref q8, .ref q9])), (q2, .inl (cy 1, 9, .inl (fun _ => 0))), (q3, .inl (cy 1, 9, .inl (fun _ => 0))), (q4, .inl (cy 1, 9, .inl (fun _ => 0))), (q5, .inl (cy 1, 4, .inl (fun _ => 0))), (q6, .inl (cy 1, 4, .inl (fun _ => 0))), (q7, .inl (cy 1, 3, .inl (fun _ => 0))), (q8, .inl (cy 1, 3, .inl (fun _ => 0))), (q9, .inl (cy 1, 3, .inl (fun _ => 0))), (q10, .inl (cy 1, 3, .inl (fun _ => 0)))] := hD
  have hP9 := hP.sub (ws' := [(h0, .inr (4, [.ref a1, .ref q1, .int 1, .int 0, .int 0, .int 0, .ref q10])), (q1, .inr (2, [.int 4, .int 0, .int 0, .int 0, .ref q2, .ref q3, .ref q4, .ref q5, .ref q6, .ref q7, .ref q8, .ref q9])), (q2, .inl (cy 1, 9, .inl (fun _ => 0))), (q3, .inl (cy 1, 9, .inl (fun _ => 0))), (q4, .inl (cy 1, 9, .inl (fun _ => 0))), (q5, .inl (cy 1, 4, .inl (fun _ => 0))), (q6, .inl (cy 1, 4, .inl (fun _ => 0))), (q7, .inl (cy 1, 3, .inl (fun _ => 0))), (q8, .inl (cy 1, 3, .inl (fun _ => 0))), (q9, .inl (cy 1, 3, .inl (fun _ => 0))), (q10, .inl (cy 1, 3, .inl (fun _ => 0)))]) [0, 1, 2, 3, 4, 5, 6, 7, 8, 9, 10] rfl
  have hD9 := hD.sub (ws' := [(h0, .inr (4, [.ref a1, .ref q1, .int 1, .int 0, .int 0, .int 0, .ref q10])), (q1, .inr (2, [.int 4, .int 0, .int 0, .int 0, .ref q2, .ref q3, .ref q4, .ref q5, .ref q6, .ref q7, .ref q8, .ref q9])), (q2, .inl (cy 1, 9, .inl (fun _ => 0))), (q3, .inl (cy 1, 9, .inl (fun _ => 0))), (q4, .inl (cy 1, 9, .inl (fun _ => 0))), (q5, .inl (cy 1, 4, .inl (fun _ => 0))), (q6, .inl (cy 1, 4, .inl (fun _ => 0))), (q7, .inl (cy 1, 3, .inl (fun _ => 0))), (q8, .inl (cy 1, 3, .inl (fun _ => 0))), (q9, .inl (cy 1, 3, .inl (fun _ => 0))), (q10, .inl (cy 1, 3, .inl (fun _ => 0)))]) [0, 1, 2, 3, 4, 5, 6, 7, 8, 9, 10] (by decide) rfl
  exact W.vret hx hb hr (fun t ht hW => ⟨⟨(), rfl, trivial, q1, q2, q3, q4, q5, q6, q7, q8, q9, q10, by rw [ht]; exact hP9, hD9⟩, hS.F ht⟩) hS.2.2 dX4_init_47
