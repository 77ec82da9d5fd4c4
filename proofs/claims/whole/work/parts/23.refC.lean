variable {p : Program} {l : Launch} {e : Env} {R : Room} {s : State} {m : MethodId} {args : Array Value} {below : List Frame} {meth : Method} {c : Code} {Q : State → Prop} {D : va_G} {cy : Nat → ClassId} {ad sk sv : Nat → Nat}
def q_X10_isPlank (x1 : Int32) (f : mM) : Option (Int32) := bi (q_X10_in x1 0 ((f 0 16) - 1)) (fun y1 => rz y1 (some y1))
set_option maxHeartbeats 4000000 in
set_option maxRecDepth 100000 in
theorem b_X10_isPlank (C0 : cX p s m args meth c cX10_isPlank 2 (some .boolean) RX10 wsX10_isPlank D cy (xR)) (hj : jR ad) (hR : 1 ≤ R.frames ∧ 22 ≤ R.locals) (x1 : Int32) (f : mM) (t : Int64) (r : Int32) (hf : q_X10_isPlank x1 f = some r) (kr : ∀ (H : Heap) (locs : List Loc) (ls : Array Slot) (pc : Nat), decode cX10_isPlank pc = .ok (.ireturn, 1) → narrow .boolean (.int r) = .int r → va_P D vwCl (wR ad cy f t) H → va_S (aR ad) s.heap H locs → W p l e R s m args below meth c H locs 0 0 Q (F0 m pc ls [.int r])) (H : Heap) (locs : List Loc) (ls : Array Slot) (hP : va_P D vwCl (wR ad cy f t) H) (hS : va_S (aR ad) s.heap H locs) (hl : lv_has ls 2 [(0, .ref (ad 0)), (1, .int x1)]) : W p l e R s m args below meth c H locs 0 0 Q (F0 m 0 ls []) := by
  obtain ⟨hx, hb, hr, hml, hown, hts, hlocks, hK, hX0⟩ := id C0
  have lk148 := hts (.fieldLink RX10 148 "PlankNineModel" "planks" "I") (List.mem_of_getElem? (i := 1) rfl)
  have hiX10 : ∀ w ∈ u_ws RX10 TX10 34, w ∈ wsX10_isPlank := fun w h => List.mem_cons_of_mem _ (List.mem_append_right _ h)
  unfold q_X10_isPlank at hf
  refine lv_iload_n hx hb dX10_isPlank_0 rfl (lv_at hl 1 rfl) ?_
  refine lv_iconst (v := 0) hx hb dX10_isPlank_1 (by decide) ?_
  refine lv_aload_n hx hb dX10_isPlank_2 rfl (lv_at hl 0 rfl) ?_
  refine va_get (D := D) (ci := 10) (v := .int (f 0 16)) (C := RX10) (T := TX10) (N := 34) hx hb hts hiX10 hown hK hP 0 rfl rfl 16 (by decide) lk148 (fun _ h9 => h9) rfl dX10_isPlank_3 ?_
  refine lv_iconst (v := 1) hx hb dX10_isPlank_6 (by decide) ?_
  refine lv_isub hx hb dX10_isPlank_7 ?_
  obtain ⟨y1, hq2, hf⟩ := bi_out hf
  refine cw_si (As := [.int x1, .int 0, .int ((f 0 16) - 1)]) (rest := []) ⟨hx, hb, hml, hown, hts⟩ xR_S hK hX0 hS hP (c_X10_in hj l x1 0 ((f 0 16) - 1) f t y1 hq2) (va_cwS 3 hts gX10_isPlank_X10_in rfl rfl rfl (by decide +kernel) ⟨Nat.le_trans (Nat.le_of_ble_eq_true rfl) hR.1, Nat.le_trans (Nat.le_of_ble_eq_true rfl) hR.2⟩) rfl hl.1 rfl (Nat.le_of_ble_eq_true rfl) ⟨Nat.zero_le _, Nat.zero_le _⟩ dX10_isPlank_8 (fun H locs hP hS => ?_)
  obtain ⟨hz, hf⟩ := rz_out hf
  obtain rfl := Option.some.inj hf
  exact kr H locs ls 11 dX10_isPlank_11 hz hP hS
set_option maxHeartbeats 4000000 in
set_option maxRecDepth 100000 in
theorem c_X10_isPlank (hj : jR ad) (l : Launch) (x1 : Int32) (f : mM) (t : Int64) (r : Int32) (hf : q_X10_isPlank x1 f = some r) : Met l yX10_isPlank wsX10_isPlank ({ frames := 1, cells := 0, slots := 0, locals := 22 }) (va_Pc ([.ref (ad 0), .int x1]) (pre D cy (wR ad cy) (xR) f t)) (va_Qi (fun (r2 : Int32) (u : mM × Int64) => r2 = r ∧ u = (f, t)) (atW D (wR ad cy)) (aR ad)) 0 0 (aR ad) := by
  refine Met.ofW (cc := cX10_isPlank) (maxL := 2) (ret := (some .boolean)) (by decide) rfl ?_
  intro p e s m args below meth c s₁ B hml hv
  obtain ⟨rfl, hP, hK, hX0⟩ := hv
  have hl := lv_entry ([.ref (ad 0), .int x1]) (n := 2) (Nat.le_of_ble_eq_true rfl)
  rw [lg_entry_eq]
  generalize (lg_sl ([.ref (ad 0), .int x1]) ++ List.replicate (2 - (lg_sl ([.ref (ad 0), .int x1])).length) Slot.unset).toArray = ls at hl ⊢
  have hlocks := B.notSynchronized
  exact b_X10_isPlank ⟨B.exec, B.bytes, B.returns, hml, findClass_of_methodNamed B.named, atoms_spec (ws := wsX10_isPlank) B.pre, hlocks, hK, hX0⟩ hj ⟨Nat.le_refl _, Nat.le_refl _⟩ x1 f t r hf (fun H locs ls pc hd hz hP hS => W.zret B.exec B.bytes B.returns hz (fun t2 ht hW => ⟨⟨r, (f, t), rfl, ⟨rfl, rfl⟩, by show va_P D vwCl _ t2.heap; rw [ht]; exact hP⟩, hS.F ht⟩) hS.2.2 hd) s.heap [] ls hP va_S.rf hl
def q_X10_isPerson (x1 : Int32) (f : mM) : Option (Int32) := bi (q_X10_in x1 0 ((f 0 17) - 1)) (fun y1 => rz y1 (some y1))
set_option maxHeartbeats 4000000 in
set_option maxRecDepth 100000 in
theorem b_X10_isPerson (C0 : cX p s m args meth c cX10_isPerson 2 (some .boolean) RX10 wsX10_isPerson D cy (xR)) (hj : jR ad) (hR : 1 ≤ R.frames ∧ 22 ≤ R.locals) (x1 : Int32) (f : mM) (t : Int64) (r : Int32) (hf : q_X10_isPerson x1 f = some r) (kr : ∀ (H : Heap) (locs : List Loc) (ls : Array Slot) (pc : Nat), decode cX10_isPerson pc = .ok (.ireturn, 1) → narrow .boolean (.int r) = .int r → va_P D vwCl (wR ad cy f t) H → va_S (aR ad) s.heap H locs → W p l e R s m args below meth c H locs 0 0 Q (F0 m pc ls [.int r])) (H : Heap) (locs : List Loc) (ls : Array Slot) (hP : va_P D vwCl (wR ad cy f t) H) (hS : va_S (aR ad) s.heap H locs) (hl : lv_has ls 2 [(0, .ref (ad 0)), (1, .int x1)]) : W p l e R s m args below meth c H locs 0 0 Q (F0 m 0 ls []) := by
  obtain ⟨hx, hb, hr, hml, hown, hts, hlocks, hK, hX0⟩ := id C0
  have lk151 := hts (.fieldLink RX10 151 "PlankNineModel" "people" "I") (List.mem_of_getElem? (i := 1) rfl)
  have hiX10 : ∀ w ∈ u_ws RX10 TX10 34, w ∈ wsX10_isPerson := fun w h => List.mem_cons_of_mem _ (List.mem_append_right _ h)
  unfold q_X10_isPerson at hf
  refine lv_iload_n hx hb dX10_isPerson_0 rfl (lv_at hl 1 rfl) ?_
  refine lv_iconst (v := 0) hx hb dX10_isPerson_1 (by decide) ?_
  refine lv_aload_n hx hb dX10_isPerson_2 rfl (lv_at hl 0 rfl) ?_
  refine va_get (D := D) (ci := 10) (v := .int (f 0 17)) (C := RX10) (T := TX10) (N := 34) hx hb hts hiX10 hown hK hP 0 rfl rfl 17 (by decide) lk151 (fun _ h9 => h9) rfl dX10_isPerson_3 ?_
  refine lv_iconst (v := 1) hx hb dX10_isPerson_6 (by decide) ?_
  refine lv_isub hx hb dX10_isPerson_7 ?_
  obtain ⟨y1, hq2, hf⟩ := bi_out hf
  refine cw_si (As := [.int x1, .int 0, .int ((f 0 17) - 1)]) (rest := []) ⟨hx, hb, hml, hown, hts⟩ xR_S hK hX0 hS hP (c_X10_in hj l x1 0 ((f 0 17) - 1) f t y1 hq2) (va_cwS 3 hts gX10_isPerson_X10_in rfl rfl rfl (by decide +kernel) ⟨Nat.le_trans (Nat.le_of_ble_eq_true rfl) hR.1, Nat.le_trans (Nat.le_of_ble_eq_true rfl) hR.2⟩) rfl hl.1 rfl (Nat.le_of_ble_eq_true rfl) ⟨Nat.zero_le _, Nat.zero_le _⟩ dX10_isPerson_8 (fun H locs hP hS => ?_)
  obtain ⟨hz, hf⟩ := rz_out hf
  obtain rfl := Option.some.inj hf
  exact kr H locs ls 11 dX10_isPerson_11 hz hP hS
set_option maxHeartbeats 4000000 in
set_option maxRecDepth 100000 in
theorem c_X10_isPerson (hj : jR ad) (l : Launch) (x1 : Int32) (f : mM) (t : Int64) (r : Int32) (hf : q_X10_isPerson x1 f = some r) : Met l yX10_isPerson wsX10_isPerson ({ frames := 1, cells := 0, slots := 0, locals := 22 }) (va_Pc ([.ref (ad 0), .int x1]) (pre D cy (wR ad cy) (xR) f t)) (va_Qi (fun (r2 : Int32) (u : mM × Int64) => r2 = r ∧ u = (f, t)) (atW D (wR ad cy)) (aR ad)) 0 0 (aR ad) := by
  refine Met.ofW (cc := cX10_isPerson) (maxL := 2) (ret := (some .boolean)) (by decide) rfl ?_
  intro p e s m args below meth c s₁ B hml hv
  obtain ⟨rfl, hP, hK, hX0⟩ := hv
  have hl := lv_entry ([.ref (ad 0), .int x1]) (n := 2) (Nat.le_of_ble_eq_true rfl)
  rw [lg_entry_eq]
  generalize (lg_sl ([.ref (ad 0), .int x1]) ++ List.replicate (2 - (lg_sl ([.ref (ad 0), .int x1])).length) Slot.unset).toArray = ls at hl ⊢
  have hlocks := B.notSynchronized
  exact b_X10_isPerson ⟨B.exec, B.bytes, B.returns, hml, findClass_of_methodNamed B.named, atoms_spec (ws := wsX10_isPerson) B.pre, hlocks, hK, hX0⟩ hj ⟨Nat.le_refl _, Nat.le_refl _⟩ x1 f t r hf (fun H locs ls pc hd hz hP hS => W.zret B.exec B.bytes B.returns hz (fun t2 ht hW => ⟨⟨r, (f, t), rfl, ⟨rfl, rfl⟩, by show va_P D vwCl _ t2.heap; rw [ht]; exact hP⟩, hS.F ht⟩) hS.2.2 hd) s.heap [] ls hP va_S.rf hl
def q_X10_arePlaces (x1 : Int32) (x2 : Int32) (f : mM) : Option (Int32) := bi (q_X10_in x1 0 ((f 0 15) - 1)) (fun y1 => if y1 = 0 then rz 0 (some 0) else bi (q_X10_in x2 0 ((f 0 15) - 1)) (fun y3 => if y3 = 0 then rz 0 (some 0) else if x1 = x2 then rz 0 (some 0) else rz 1 (some 1)))
set_option maxHeartbeats 4000000 in
set_option maxRecDepth 100000 in
theorem b_X10_arePlaces (C0 : cX p s m args meth c cX10_arePlaces 3 (some .boolean) RX10 wsX10_arePlaces D cy (xR)) (hj : jR ad) (hR : 1 ≤ R.frames ∧ 22 ≤ R.locals) (x1 : Int32) (x2 : Int32) (f : mM) (t : Int64) (r : Int32) (hf : q_X10_arePlaces x1 x2 f = some r) (kr : ∀ (H : Heap) (locs : List Loc) (ls : Array Slot) (pc : Nat), decode cX10_arePlaces pc = .ok (.ireturn, 1) → narrow .boolean (.int r) = .int r → va_P D vwCl (wR ad cy f t) H → va_S (aR ad) s.heap H locs → W p l e R s m args below meth c H locs 0 0 Q (F0 m pc ls [.int r])) (H : Heap) (locs : List Loc) (ls : Array Slot) (hP : va_P D vwCl (wR ad cy f t) H) (hS : va_S (aR ad) s.heap H locs) (hl : lv_has ls 3 [(0, .ref (ad 0)), (1, .int x1), (2, .int x2)]) : W p l e R s m args below meth c H locs 0 0 Q (F0 m 0 ls []) := by
  obtain ⟨hx, hb, hr, hml, hown, hts, hlocks, hK, hX0⟩ := id C0
  have lk65 := hts (.fieldLink RX10 65 "PlankNineModel" "places" "I") (List.mem_of_getElem? (i := 1) rfl)
  have hiX10 : ∀ w ∈ u_ws RX10 TX10 34, w ∈ wsX10_arePlaces := fun w h => List.mem_cons_of_mem _ (List.mem_append_right _ h)
  unfold q_X10_arePlaces at hf
  refine lv_iload_n hx hb dX10_arePlaces_0 rfl (lv_at hl 1 rfl) ?_
  refine lv_iconst (v := 0) hx hb dX10_arePlaces_1 (by decide) ?_
  refine lv_aload_n hx hb dX10_arePlaces_2 rfl (lv_at hl 0 rfl) ?_
  refine va_get (D := D) (ci := 10) (v := .int (f 0 15)) (C := RX10) (T := TX10) (N := 34) hx hb hts hiX10 hown hK hP 0 rfl rfl 15 (by decide) lk65 (fun _ h9 => h9) rfl dX10_arePlaces_3 ?_
  refine lv_iconst (v := 1) hx hb dX10_arePlaces_6 (by decide) ?_
  refine lv_isub hx hb dX10_arePlaces_7 ?_
  obtain ⟨y1, hq2, hf⟩ := bi_out hf
  refine cw_si (As := [.int x1, .int 0, .int ((f 0 15) - 1)]) (rest := []) ⟨hx, hb, hml, hown, hts⟩ xR_S hK hX0 hS hP (c_X10_in hj l x1 0 ((f 0 15) - 1) f t y1 hq2) (va_cwS 3 hts gX10_arePlaces_X10_in rfl rfl rfl (by decide +kernel) ⟨Nat.le_trans (Nat.le_of_ble_eq_true rfl) hR.1, Nat.le_trans (Nat.le_of_ble_eq_true rfl) hR.2⟩) rfl hl.1 rfl (Nat.le_of_ble_eq_true rfl) ⟨Nat.zero_le _, Nat.zero_le _⟩ dX10_arePlaces_8 (fun H locs hP hS => ?_)
  refine lv_if_eq (tgt := 37) hx hb dX10_arePlaces_11 (by decide) (fun c11 => ?_) (fun c11 => ?_)
  · have hf := itT hf c11
    refine lv_iconst (v := 0) hx hb dX10_arePlaces_37 (by decide) ?_
    obtain ⟨hz, hf⟩ := rz_out hf
    obtain rfl := Option.some.inj hf
    exact kr H locs ls 38 dX10_arePlaces_38 hz hP hS
  · have hf := itF hf c11
    refine lv_iload_n hx hb dX10_arePlaces_14 rfl (lv_at hl 2 rfl) ?_
    refine lv_iconst (v := 0) hx hb dX10_arePlaces_15 (by decide) ?_
    refine lv_aload_n hx hb dX10_arePlaces_16 rfl (lv_at hl 0 rfl) ?_
    refine va_get (D := D) (ci := 10) (v := .int (f 0 15)) (C := RX10) (T := TX10) (N := 34) hx hb hts hiX10 hown hK hP 0 rfl rfl 15 (by decide) lk65 (fun _ h9 => h9) rfl dX10_arePlaces_17 ?_
    refine lv_iconst (v := 1) hx hb dX10_arePlaces_20 (by decide) ?_
    refine lv_isub hx hb dX10_arePlaces_21 ?_
    obtain ⟨y3, hq4, hf⟩ := bi_out hf
    refine cw_si (As := [.int x2, .int 0, .int ((f 0 15) - 1)]) (rest := []) ⟨hx, hb, hml, hown, hts⟩ xR_S hK hX0 hS hP (c_X10_in hj l x2 0 ((f 0 15) - 1) f t y3 hq4) (va_cwS 3 hts gX10_arePlaces_X10_in rfl rfl rfl (by decide +kernel) ⟨Nat.le_trans (Nat.le_of_ble_eq_true rfl) hR.1, Nat.le_trans (Nat.le_of_ble_eq_true rfl) hR.2⟩) rfl hl.1 rfl (Nat.le_of_ble_eq_true rfl) ⟨Nat.zero_le _, Nat.zero_le _⟩ dX10_arePlaces_22 (fun H locs hP hS => ?_)
    refine lv_if_eq (tgt := 37) hx hb dX10_arePlaces_25 (by decide) (fun c25 => ?_) (fun c25 => ?_)
    · have hf := itT hf c25
      refine lv_iconst (v := 0) hx hb dX10_arePlaces_37 (by decide) ?_
      obtain ⟨hz, hf⟩ := rz_out hf
      obtain rfl := Option.some.inj hf
      exact kr H locs ls 38 dX10_arePlaces_38 hz hP hS
    · have hf := itF hf c25
      refine lv_iload_n hx hb dX10_arePlaces_28 rfl (lv_at hl 1 rfl) ?_
      refine lv_iload_n hx hb dX10_arePlaces_29 rfl (lv_at hl 2 rfl) ?_
      refine lv_icmp_eq (tgt := 37) hx hb dX10_arePlaces_30 (by decide) (fun c30 => ?_) (fun c30 => ?_)
      · have hf := itT hf c30
        refine lv_iconst (v := 0) hx hb dX10_arePlaces_37 (by decide) ?_
        obtain ⟨hz, hf⟩ := rz_out hf
        obtain rfl := Option.some.inj hf
        exact kr H locs ls 38 dX10_arePlaces_38 hz hP hS
      · have hf := itF hf c30
        refine lv_iconst (v := 1) hx hb dX10_arePlaces_33 (by decide) ?_
        refine lv_goto (tgt := 38) hx hb dX10_arePlaces_34 (by decide) ?_
        obtain ⟨hz, hf⟩ := rz_out hf
        obtain rfl := Option.some.inj hf
        exact kr H locs ls 38 dX10_arePlaces_38 hz hP hS
set_option maxHeartbeats 4000000 in
set_option maxRecDepth 100000 in
theorem c_X10_arePlaces (hj : jR ad) (l : Launch) (x1 : Int32) (x2 : Int32) (f : mM) (t : Int64) (r : Int32) (hf : q_X10_arePlaces x1 x2 f = some r) : Met l yX10_arePlaces wsX10_arePlaces ({ frames := 1, cells := 0, slots := 0, locals := 22 }) (va_Pc ([.ref (ad 0), .int x1, .int x2]) (pre D cy (wR ad cy) (xR) f t)) (va_Qi (fun (r2 : Int32) (u : mM × Int64) => r2 = r ∧ u = (f, t)) (atW D (wR ad cy)) (aR ad)) 0 0 (aR ad) := by
  refine Met.ofW (cc := cX10_arePlaces) (maxL := 3) (ret := (some .boolean)) (by decide) rfl ?_
  intro p e s m args below meth c s₁ B hml hv
  obtain ⟨rfl, hP, hK, hX0⟩ := hv
  have hl := lv_entry ([.ref (ad 0), .int x1, .int x2]) (n := 3) (Nat.le_of_ble_eq_true rfl)
  rw [lg_entry_eq]
  generalize (lg_sl ([.ref (ad 0), .int x1, .int x2]) ++ List.replicate (3 - (lg_sl ([.ref (ad 0), .int x1, .int x2])).length) Slot.unset).toArray = ls at hl ⊢
  have hlocks := B.notSynchronized
  exact b_X10_arePlaces ⟨B.exec, B.bytes, B.returns, hml, findClass_of_methodNamed B.named, atoms_spec (ws := wsX10_arePlaces) B.pre, hlocks, hK, hX0⟩ hj ⟨Nat.le_refl _, Nat.le_refl _⟩ x1 x2 f t r hf (fun H locs ls pc hd hz hP hS => W.zret B.exec B.bytes B.returns hz (fun t2 ht hW => ⟨⟨r, (f, t), rfl, ⟨rfl, rfl⟩, by show va_P D vwCl _ t2.heap; rw [ht]; exact hP⟩, hS.F ht⟩) hS.2.2 hd) s.heap [] ls hP va_S.rf hl
def q_X10_plank (x1 : Int32) (x2 : Int32) (f : mM) : Option (Int32 × mM) := sq (st2 f 0 0 0) (fun f1 => bi (q_X10_isPlank x1 f1) (fun y2 => if y2 = 0 then some ((-1), f1) else bi (q_X10_in x2 0 2) (fun y4 => if y4 = 0 then some ((-1), f1) else if x2 = 0 then gi x1 18 (some ((f1 2 (Int32.toNatClampNeg x1)), f1)) else if x2 = 1 then gi x1 18 (some ((f1 3 (Int32.toNatClampNeg x1)), f1)) else gi x1 50 (some ((f1 8 (Int32.toNatClampNeg x1)), f1)))))
set_option maxHeartbeats 4000000 in
set_option maxRecDepth 100000 in
theorem b_X10_plank (C0 : cX p s m args meth c cX10_plank 3 (some .int) RX10 wsX10_plank D cy (xR)) (hj : jR ad) (hR : 2 ≤ R.frames ∧ 43 ≤ R.locals) (x1 : Int32) (x2 : Int32) (f : mM) (t : Int64) (r : Int32) (fR : mM) (hf : q_X10_plank x1 x2 f = some (r, fR)) (kr : ∀ (H : Heap) (locs : List Loc) (ls : Array Slot) (pc : Nat), decode cX10_plank pc = .ok (.ireturn, 1) → va_P D vwCl (wR ad cy fR t) H → va_S (aR ad) s.heap H locs → W p l e R s m args below meth c H locs 0 0 Q (F0 m pc ls [.int r])) (H : Heap) (locs : List Loc) (ls : Array Slot) (hP : va_P D vwCl (wR ad cy f t) H) (hS : va_S (aR ad) s.heap H locs) (hl : lv_has ls 3 [(0, .ref (ad 0)), (1, .int x1), (2, .int x2)]) : W p l e R s m args below meth c H locs 0 0 Q (F0 m 0 ls []) := by
  obtain ⟨hx, hb, hr, hml, hown, hts, hlocks, hK, hX0⟩ := id C0
  have lk69 := hts (.fieldLink RX10 69 "PlankNineModel" "thrown" "I") (List.mem_of_getElem? (i := 1) rfl)
  have hiX10 : ∀ w ∈ u_ws RX10 TX10 34, w ∈ wsX10_plank := fun w h => List.mem_cons_of_mem _ (List.mem_append_right _ h)
  have lk31 := hts (.fieldLink RX10 31 "PlankNineModel" "s" "[I") (List.mem_of_getElem? (i := 4) rfl)
  have lk16 := hts (.fieldLink RX10 16 "PlankNineModel" "other" "[I") (List.mem_of_getElem? (i := 3) rfl)
  have lk13 := hts (.fieldLink RX10 13 "PlankNineModel" "one" "[I") (List.mem_of_getElem? (i := 2) rfl)
  unfold q_X10_plank at hf
  refine lv_aload_n hx hb dX10_plank_0 rfl (lv_at hl 0 rfl) ?_
  refine lv_iconst (v := 0) hx hb dX10_plank_1 (by decide) ?_
  obtain ⟨f1, ef1, hf⟩ := sq_out hf
  refine va_put (D := D) (ci := 10) (v := .int 0) (ty := .int) (C := RX10) (T := TX10) (N := 34) hx hb hts hiX10 tyX10 tyX10_ok nmX10 hown hK hP (dR hj f t) hS 0 rfl rfl 0 (by decide) lk69 (fun _ h9 => h9) rfl (by decide +kernel) rfl rfl (Nat.le_of_ble_eq_true rfl) dX10_plank_2 (fun H locs hP _ hS => ?_)
  have hP := sR_0_0 ef1 hP
  refine lv_aload_n hx hb dX10_plank_5 rfl (lv_at hl 0 rfl) ?_
  refine lv_iload_n hx hb dX10_plank_6 rfl (lv_at hl 1 rfl) ?_
  obtain ⟨y2, hq3, hf⟩ := bi_out hf
  refine cw_vi (As := [.int x1]) (rest := []) ⟨hx, hb, hml, hown, hts⟩ xR_S hK hX0 hS hP (c_X10_isPlank hj l x1 f1 t y2 hq3) (cwV 1 hts gX10_plank_X10_isPlank rfl rfl rfl (by decide +kernel) ⟨Nat.le_trans (Nat.le_of_ble_eq_true rfl) hR.1, Nat.le_trans (Nat.le_of_ble_eq_true rfl) hR.2⟩) (va_recv hK hP (ci := 10) (q0 := 0) rfl rfl) rfl hl.1 rfl (Nat.le_of_ble_eq_true rfl) ⟨Nat.zero_le _, Nat.zero_le _⟩ dX10_plank_7 (fun H locs hP hS => ?_)
  refine lv_if_eq (tgt := 22) hx hb dX10_plank_10 (by decide) (fun c10 => ?_) (fun c10 => ?_)
  · have hf := itT hf c10
    refine lv_iconst (v := (-1)) hx hb dX10_plank_22 (by decide) ?_
    obtain ⟨rfl, rfl⟩ := Prod.mk.inj (Option.some.inj hf)
    exact kr H locs ls 23 dX10_plank_23 hP hS
  · have hf := itF hf c10
    refine lv_iload_n hx hb dX10_plank_13 rfl (lv_at hl 2 rfl) ?_
    refine lv_iconst (v := 0) hx hb dX10_plank_14 (by decide) ?_
    refine lv_iconst (v := 2) hx hb dX10_plank_15 (by decide) ?_
    obtain ⟨y4, hq5, hf⟩ := bi_out hf
    refine cw_si (As := [.int x2, .int 0, .int 2]) (rest := []) ⟨hx, hb, hml, hown, hts⟩ xR_S hK hX0 hS hP (c_X10_in hj l x2 0 2 f1 t y4 hq5) (va_cwS 3 hts gX10_plank_X10_in rfl rfl rfl (by decide +kernel) ⟨Nat.le_trans (Nat.le_of_ble_eq_true rfl) hR.1, Nat.le_trans (Nat.le_of_ble_eq_true rfl) hR.2⟩) rfl hl.1 rfl (Nat.le_of_ble_eq_true rfl) ⟨Nat.zero_le _, Nat.zero_le _⟩ dX10_plank_16 (fun H locs hP hS => ?_)
    refine lv_if_ne (tgt := 24) hx hb dX10_plank_19 (by decide) (fun c19 => ?_) (fun c19 => ?_)
    · have hf := itF hf c19
      refine lv_iload_n hx hb dX10_plank_24 rfl (lv_at hl 2 rfl) ?_
      refine lv_if_ne (tgt := 37) hx hb dX10_plank_25 (by decide) (fun c25 => ?_) (fun c25 => ?_)
      · have hf := itF hf c25
        refine lv_iload_n hx hb dX10_plank_37 rfl (lv_at hl 2 rfl) ?_
        refine lv_iconst (v := 1) hx hb dX10_plank_38 (by decide) ?_
        refine lv_icmp_ne (tgt := 51) hx hb dX10_plank_39 (by decide) (fun c39 => ?_) (fun c39 => ?_)
        · have hf := itF hf c39
          refine lv_aload_n hx hb dX10_plank_51 rfl (lv_at hl 0 rfl) ?_
          refine va_get (D := D) (ci := 10) (v := .ref (ad 8)) (C := RX10) (T := TX10) (N := 34) hx hb hts hiX10 hown hK hP 0 rfl rfl 23 (by decide) lk31 (fun _ h9 => h9) rfl dX10_plank_52 ?_
          refine lv_iload_n hx hb dX10_plank_55 rfl (lv_at hl 1 rfl) ?_
          obtain ⟨hin6, hf⟩ := gi_out hf
          refine va_iald hx hb hK hP 8 1 rfl rfl hin6 dX10_plank_56 ?_
          obtain ⟨rfl, rfl⟩ := Prod.mk.inj (Option.some.inj hf)
          exact kr H locs ls 57 dX10_plank_57 hP hS
        · have hf := itT hf c39
          refine lv_aload_n hx hb dX10_plank_42 rfl (lv_at hl 0 rfl) ?_
          refine va_get (D := D) (ci := 10) (v := .ref (ad 3)) (C := RX10) (T := TX10) (N := 34) hx hb hts hiX10 hown hK hP 0 rfl rfl 10 (by decide) lk16 (fun _ h9 => h9) rfl dX10_plank_43 ?_
          refine lv_iload_n hx hb dX10_plank_46 rfl (lv_at hl 1 rfl) ?_
          obtain ⟨hin7, hf⟩ := gi_out hf
          refine va_iald hx hb hK hP 3 1 rfl rfl hin7 dX10_plank_47 ?_
          refine lv_goto (tgt := 57) hx hb dX10_plank_48 (by decide) ?_
          obtain ⟨rfl, rfl⟩ := Prod.mk.inj (Option.some.inj hf)
          exact kr H locs ls 57 dX10_plank_57 hP hS
      · have hf := itT hf c25
        refine lv_aload_n hx hb dX10_plank_28 rfl (lv_at hl 0 rfl) ?_
        refine va_get (D := D) (ci := 10) (v := .ref (ad 2)) (C := RX10) (T := TX10) (N := 34) hx hb hts hiX10 hown hK hP 0 rfl rfl 9 (by decide) lk13 (fun _ h9 => h9) rfl dX10_plank_29 ?_
        refine lv_iload_n hx hb dX10_plank_32 rfl (lv_at hl 1 rfl) ?_
        obtain ⟨hin8, hf⟩ := gi_out hf
        refine va_iald hx hb hK hP 2 1 rfl rfl hin8 dX10_plank_33 ?_
        refine lv_goto (tgt := 57) hx hb dX10_plank_34 (by decide) ?_
        obtain ⟨rfl, rfl⟩ := Prod.mk.inj (Option.some.inj hf)
        exact kr H locs ls 57 dX10_plank_57 hP hS
    · have hf := itT hf c19
      refine lv_iconst (v := (-1)) hx hb dX10_plank_22 (by decide) ?_
      obtain ⟨rfl, rfl⟩ := Prod.mk.inj (Option.some.inj hf)
      exact kr H locs ls 23 dX10_plank_23 hP hS
set_option maxHeartbeats 4000000 in
set_option maxRecDepth 100000 in
theorem c_X10_plank (hj : jR ad) (l : Launch) (x1 : Int32) (x2 : Int32) (f : mM) (t : Int64) (r : Int32) (fR : mM) (hf : q_X10_plank x1 x2 f = some (r, fR)) : Met l yX10_plank wsX10_plank ({ frames := 2, cells := 0, slots := 0, locals := 43 }) (va_Pc ([.ref (ad 0), .int x1, .int x2]) (pre D cy (wR ad cy) (xR) f t)) (va_Qi (fun (r2 : Int32) (u : mM × Int64) => r2 = r ∧ u = (fR, t)) (atW D (wR ad cy)) (aR ad)) 0 0 (aR ad) := by
  refine Met.ofW (cc := cX10_plank) (maxL := 3) (ret := (some .int)) (by decide) rfl ?_
  intro p e s m args below meth c s₁ B hml hv
  obtain ⟨rfl, hP, hK, hX0⟩ := hv
  have hl := lv_entry ([.ref (ad 0), .int x1, .int x2]) (n := 3) (Nat.le_of_ble_eq_true rfl)
  rw [lg_entry_eq]
  generalize (lg_sl ([.ref (ad 0), .int x1, .int x2]) ++ List.replicate (3 - (lg_sl ([.ref (ad 0), .int x1, .int x2])).length) Slot.unset).toArray = ls at hl ⊢
  have hlocks := B.notSynchronized
  exact b_X10_plank ⟨B.exec, B.bytes, B.returns, hml, findClass_of_methodNamed B.named, atoms_spec (ws := wsX10_plank) B.pre, hlocks, hK, hX0⟩ hj ⟨Nat.le_refl _, Nat.le_refl _⟩ x1 x2 f t r fR hf (fun H locs ls pc hd hP hS => W.iret B.exec B.bytes B.returns (fun t2 ht hW => ⟨⟨r, (fR, t), rfl, ⟨rfl, rfl⟩, by show va_P D vwCl _ t2.heap; rw [ht]; exact hP⟩, hS.F ht⟩) hS.2.2 hd) s.heap [] ls hP va_S.rf hl
def q_X10_person (x1 : Int32) (x2 : Int32) (f : mM) : Option (Int32 × mM) := sq (st2 f 0 0 0) (fun f1 => bi (q_X10_isPerson x1 f1) (fun y2 => if y2 = 0 then some ((-1), f1) else bi (q_X10_in x2 0 1) (fun y4 => if y4 = 0 then some ((-1), f1) else if x2 = 0 then gi x1 8 (some ((f1 5 (Int32.toNatClampNeg x1)), f1)) else gi x1 8 (some ((f1 6 (Int32.toNatClampNeg x1)), f1)))))
set_option maxHeartbeats 4000000 in
set_option maxRecDepth 100000 in
theorem b_X10_person (C0 : cX p s m args meth c cX10_person 3 (some .int) RX10 wsX10_person D cy (xR)) (hj : jR ad) (hR : 2 ≤ R.frames ∧ 43 ≤ R.locals) (x1 : Int32) (x2 : Int32) (f : mM) (t : Int64) (r : Int32) (fR : mM) (hf : q_X10_person x1 x2 f = some (r, fR)) (kr : ∀ (H : Heap) (locs : List Loc) (ls : Array Slot) (pc : Nat), decode cX10_person pc = .ok (.ireturn, 1) → va_P D vwCl (wR ad cy fR t) H → va_S (aR ad) s.heap H locs → W p l e R s m args below meth c H locs 0 0 Q (F0 m pc ls [.int r])) (H : Heap) (locs : List Loc) (ls : Array Slot) (hP : va_P D vwCl (wR ad cy f t) H) (hS : va_S (aR ad) s.heap H locs) (hl : lv_has ls 3 [(0, .ref (ad 0)), (1, .int x1), (2, .int x2)]) : W p l e R s m args below meth c H locs 0 0 Q (F0 m 0 ls []) := by
  obtain ⟨hx, hb, hr, hml, hown, hts, hlocks, hK, hX0⟩ := id C0
  have lk69 := hts (.fieldLink RX10 69 "PlankNineModel" "thrown" "I") (List.mem_of_getElem? (i := 1) rfl)
  have hiX10 : ∀ w ∈ u_ws RX10 TX10 34, w ∈ wsX10_person := fun w h => List.mem_cons_of_mem _ (List.mem_append_right _ h)
  have lk25 := hts (.fieldLink RX10 25 "PlankNineModel" "stride" "[I") (List.mem_of_getElem? (i := 3) rfl)
  have lk22 := hts (.fieldLink RX10 22 "PlankNineModel" "weight" "[I") (List.mem_of_getElem? (i := 2) rfl)
  unfold q_X10_person at hf
  refine lv_aload_n hx hb dX10_person_0 rfl (lv_at hl 0 rfl) ?_
  refine lv_iconst (v := 0) hx hb dX10_person_1 (by decide) ?_
  obtain ⟨f1, ef1, hf⟩ := sq_out hf
  refine va_put (D := D) (ci := 10) (v := .int 0) (ty := .int) (C := RX10) (T := TX10) (N := 34) hx hb hts hiX10 tyX10 tyX10_ok nmX10 hown hK hP (dR hj f t) hS 0 rfl rfl 0 (by decide) lk69 (fun _ h9 => h9) rfl (by decide +kernel) rfl rfl (Nat.le_of_ble_eq_true rfl) dX10_person_2 (fun H locs hP _ hS => ?_)
  have hP := sR_0_0 ef1 hP
  refine lv_aload_n hx hb dX10_person_5 rfl (lv_at hl 0 rfl) ?_
  refine lv_iload_n hx hb dX10_person_6 rfl (lv_at hl 1 rfl) ?_
  obtain ⟨y2, hq3, hf⟩ := bi_out hf
  refine cw_vi (As := [.int x1]) (rest := []) ⟨hx, hb, hml, hown, hts⟩ xR_S hK hX0 hS hP (c_X10_isPerson hj l x1 f1 t y2 hq3) (cwV 1 hts gX10_person_X10_isPerson rfl rfl rfl (by decide +kernel) ⟨Nat.le_trans (Nat.le_of_ble_eq_true rfl) hR.1, Nat.le_trans (Nat.le_of_ble_eq_true rfl) hR.2⟩) (va_recv hK hP (ci := 10) (q0 := 0) rfl rfl) rfl hl.1 rfl (Nat.le_of_ble_eq_true rfl) ⟨Nat.zero_le _, Nat.zero_le _⟩ dX10_person_7 (fun H locs hP hS => ?_)
  refine lv_if_eq (tgt := 44) hx hb dX10_person_10 (by decide) (fun c10 => ?_) (fun c10 => ?_)
  · have hf := itT hf c10
    refine lv_iconst (v := (-1)) hx hb dX10_person_44 (by decide) ?_
    obtain ⟨rfl, rfl⟩ := Prod.mk.inj (Option.some.inj hf)
    exact kr H locs ls 45 dX10_person_45 hP hS
  · have hf := itF hf c10
    refine lv_iload_n hx hb dX10_person_13 rfl (lv_at hl 2 rfl) ?_
    refine lv_iconst (v := 0) hx hb dX10_person_14 (by decide) ?_
    refine lv_iconst (v := 1) hx hb dX10_person_15 (by decide) ?_
    obtain ⟨y4, hq5, hf⟩ := bi_out hf
    refine cw_si (As := [.int x2, .int 0, .int 1]) (rest := []) ⟨hx, hb, hml, hown, hts⟩ xR_S hK hX0 hS hP (c_X10_in hj l x2 0 1 f1 t y4 hq5) (va_cwS 3 hts gX10_person_X10_in rfl rfl rfl (by decide +kernel) ⟨Nat.le_trans (Nat.le_of_ble_eq_true rfl) hR.1, Nat.le_trans (Nat.le_of_ble_eq_true rfl) hR.2⟩) rfl hl.1 rfl (Nat.le_of_ble_eq_true rfl) ⟨Nat.zero_le _, Nat.zero_le _⟩ dX10_person_16 (fun H locs hP hS => ?_)
    refine lv_if_eq (tgt := 44) hx hb dX10_person_19 (by decide) (fun c19 => ?_) (fun c19 => ?_)
    · have hf := itT hf c19
      refine lv_iconst (v := (-1)) hx hb dX10_person_44 (by decide) ?_
      obtain ⟨rfl, rfl⟩ := Prod.mk.inj (Option.some.inj hf)
      exact kr H locs ls 45 dX10_person_45 hP hS
    · have hf := itF hf c19
      refine lv_iload_n hx hb dX10_person_22 rfl (lv_at hl 2 rfl) ?_
      refine lv_if_ne (tgt := 35) hx hb dX10_person_23 (by decide) (fun c23 => ?_) (fun c23 => ?_)
      · have hf := itF hf c23
        refine lv_aload_n hx hb dX10_person_35 rfl (lv_at hl 0 rfl) ?_
        refine va_get (D := D) (ci := 10) (v := .ref (ad 6)) (C := RX10) (T := TX10) (N := 34) hx hb hts hiX10 hown hK hP 0 rfl rfl 13 (by decide) lk25 (fun _ h9 => h9) rfl dX10_person_36 ?_
        refine lv_iload_n hx hb dX10_person_39 rfl (lv_at hl 1 rfl) ?_
        obtain ⟨hin6, hf⟩ := gi_out hf
        refine va_iald hx hb hK hP 6 1 rfl rfl hin6 dX10_person_40 ?_
        refine lv_goto (tgt := 45) hx hb dX10_person_41 (by decide) ?_
        obtain ⟨rfl, rfl⟩ := Prod.mk.inj (Option.some.inj hf)
        exact kr H locs ls 45 dX10_person_45 hP hS
      · have hf := itT hf c23
        refine lv_aload_n hx hb dX10_person_26 rfl (lv_at hl 0 rfl) ?_
        refine va_get (D := D) (ci := 10) (v := .ref (ad 5)) (C := RX10) (T := TX10) (N := 34) hx hb hts hiX10 hown hK hP 0 rfl rfl 12 (by decide) lk22 (fun _ h9 => h9) rfl dX10_person_27 ?_
        refine lv_iload_n hx hb dX10_person_30 rfl (lv_at hl 1 rfl) ?_
        obtain ⟨hin7, hf⟩ := gi_out hf
        refine va_iald hx hb hK hP 5 1 rfl rfl hin7 dX10_person_31 ?_
        refine lv_goto (tgt := 45) hx hb dX10_person_32 (by decide) ?_
        obtain ⟨rfl, rfl⟩ := Prod.mk.inj (Option.some.inj hf)
        exact kr H locs ls 45 dX10_person_45 hP hS
set_option maxHeartbeats 4000000 in
set_option maxRecDepth 100000 in
theorem c_X10_person (hj : jR ad) (l : Launch) (x1 : Int32) (x2 : Int32) (f : mM) (t : Int64) (r : Int32) (fR : mM) (hf : q_X10_person x1 x2 f = some (r, fR)) : Met l yX10_person wsX10_person ({ frames := 2, cells := 0, slots := 0, locals := 43 }) (va_Pc ([.ref (ad 0), .int x1, .int x2]) (pre D cy (wR ad cy) (xR) f t)) (va_Qi (fun (r2 : Int32) (u : mM × Int64) => r2 = r ∧ u = (fR, t)) (atW D (wR ad cy)) (aR ad)) 0 0 (aR ad) := by
  refine Met.ofW (cc := cX10_person) (maxL := 3) (ret := (some .int)) (by decide) rfl ?_
  intro p e s m args below meth c s₁ B hml hv
  obtain ⟨rfl, hP, hK, hX0⟩ := hv
  have hl := lv_entry ([.ref (ad 0), .int x1, .int x2]) (n := 3) (Nat.le_of_ble_eq_true rfl)
  rw [lg_entry_eq]
  generalize (lg_sl ([.ref (ad 0), .int x1, .int x2]) ++ List.replicate (3 - (lg_sl ([.ref (ad 0), .int x1, .int x2])).length) Slot.unset).toArray = ls at hl ⊢
  have hlocks := B.notSynchronized
  exact b_X10_person ⟨B.exec, B.bytes, B.returns, hml, findClass_of_methodNamed B.named, atoms_spec (ws := wsX10_person) B.pre, hlocks, hK, hX0⟩ hj ⟨Nat.le_refl _, Nat.le_refl _⟩ x1 x2 f t r fR hf (fun H locs ls pc hd hP hS => W.iret B.exec B.bytes B.returns (fun t2 ht hW => ⟨⟨r, (fR, t), rfl, ⟨rfl, rfl⟩, by show va_P D vwCl _ t2.heap; rw [ht]; exact hP⟩, hS.F ht⟩) hS.2.2 hd) s.heap [] ls hP va_S.rf hl
def q_X10_errand (x1 : Int32) (x2 : Int32) (f : mM) : Option (Int32 × mM) := sq (st2 f 0 0 0) (fun f1 => bi (q_X10_in x1 0 ((f1 0 18) - 1)) (fun y2 => if y2 = 0 then some ((-1), f1) else bi (q_X10_in x2 0 2) (fun y4 => if y4 = 0 then some ((-1), f1) else gi ((3 * x1) + x2) 18 (some ((f1 7 (Int32.toNatClampNeg ((3 * x1) + x2))), f1)))))
set_option maxHeartbeats 4000000 in
set_option maxRecDepth 100000 in
theorem b_X10_errand (C0 : cX p s m args meth c cX10_errand 3 (some .int) RX10 wsX10_errand D cy (xR)) (hj : jR ad) (hR : 1 ≤ R.frames ∧ 22 ≤ R.locals) (x1 : Int32) (x2 : Int32) (f : mM) (t : Int64) (r : Int32) (fR : mM) (hf : q_X10_errand x1 x2 f = some (r, fR)) (kr : ∀ (H : Heap) (locs : List Loc) (ls : Array Slot) (pc : Nat), decode cX10_errand pc = .ok (.ireturn, 1) → va_P D vwCl (wR ad cy fR t) H → va_S (aR ad) s.heap H locs → W p l e R s m args below meth c H locs 0 0 Q (F0 m pc ls [.int r])) (H : Heap) (locs : List Loc) (ls : Array Slot) (hP : va_P D vwCl (wR ad cy f t) H) (hS : va_S (aR ad) s.heap H locs) (hl : lv_has ls 3 [(0, .ref (ad 0)), (1, .int x1), (2, .int x2)]) : W p l e R s m args below meth c H locs 0 0 Q (F0 m 0 ls []) := by
  obtain ⟨hx, hb, hr, hml, hown, hts, hlocks, hK, hX0⟩ := id C0
  have lk69 := hts (.fieldLink RX10 69 "PlankNineModel" "thrown" "I") (List.mem_of_getElem? (i := 1) rfl)
  have hiX10 : ∀ w ∈ u_ws RX10 TX10 34, w ∈ wsX10_errand := fun w h => List.mem_cons_of_mem _ (List.mem_append_right _ h)
  have lk154 := hts (.fieldLink RX10 154 "PlankNineModel" "errandMany" "I") (List.mem_of_getElem? (i := 2) rfl)
  have lk28 := hts (.fieldLink RX10 28 "PlankNineModel" "errands" "[I") (List.mem_of_getElem? (i := 3) rfl)
  unfold q_X10_errand at hf
  refine lv_aload_n hx hb dX10_errand_0 rfl (lv_at hl 0 rfl) ?_
  refine lv_iconst (v := 0) hx hb dX10_errand_1 (by decide) ?_
  obtain ⟨f1, ef1, hf⟩ := sq_out hf
  refine va_put (D := D) (ci := 10) (v := .int 0) (ty := .int) (C := RX10) (T := TX10) (N := 34) hx hb hts hiX10 tyX10 tyX10_ok nmX10 hown hK hP (dR hj f t) hS 0 rfl rfl 0 (by decide) lk69 (fun _ h9 => h9) rfl (by decide +kernel) rfl rfl (Nat.le_of_ble_eq_true rfl) dX10_errand_2 (fun H locs hP _ hS => ?_)
  have hP := sR_0_0 ef1 hP
  refine lv_iload_n hx hb dX10_errand_5 rfl (lv_at hl 1 rfl) ?_
  refine lv_iconst (v := 0) hx hb dX10_errand_6 (by decide) ?_
  refine lv_aload_n hx hb dX10_errand_7 rfl (lv_at hl 0 rfl) ?_
  refine va_get (D := D) (ci := 10) (v := .int (f1 0 18)) (C := RX10) (T := TX10) (N := 34) hx hb hts hiX10 hown hK hP 0 rfl rfl 18 (by decide) lk154 (fun _ h9 => h9) rfl dX10_errand_8 ?_
  refine lv_iconst (v := 1) hx hb dX10_errand_11 (by decide) ?_
  refine lv_isub hx hb dX10_errand_12 ?_
  obtain ⟨y2, hq3, hf⟩ := bi_out hf
  refine cw_si (As := [.int x1, .int 0, .int ((f1 0 18) - 1)]) (rest := []) ⟨hx, hb, hml, hown, hts⟩ xR_S hK hX0 hS hP (c_X10_in hj l x1 0 ((f1 0 18) - 1) f1 t y2 hq3) (va_cwS 3 hts gX10_errand_X10_in rfl rfl rfl (by decide +kernel) ⟨Nat.le_trans (Nat.le_of_ble_eq_true rfl) hR.1, Nat.le_trans (Nat.le_of_ble_eq_true rfl) hR.2⟩) rfl hl.1 rfl (Nat.le_of_ble_eq_true rfl) ⟨Nat.zero_le _, Nat.zero_le _⟩ dX10_errand_13 (fun H locs hP hS => ?_)
  refine lv_if_eq (tgt := 41) hx hb dX10_errand_16 (by decide) (fun c16 => ?_) (fun c16 => ?_)
  · have hf := itT hf c16
    refine lv_iconst (v := (-1)) hx hb dX10_errand_41 (by decide) ?_
    obtain ⟨rfl, rfl⟩ := Prod.mk.inj (Option.some.inj hf)
    exact kr H locs ls 42 dX10_errand_42 hP hS
  · have hf := itF hf c16
    refine lv_iload_n hx hb dX10_errand_19 rfl (lv_at hl 2 rfl) ?_
    refine lv_iconst (v := 0) hx hb dX10_errand_20 (by decide) ?_
    refine lv_iconst (v := 2) hx hb dX10_errand_21 (by decide) ?_
    obtain ⟨y4, hq5, hf⟩ := bi_out hf
    refine cw_si (As := [.int x2, .int 0, .int 2]) (rest := []) ⟨hx, hb, hml, hown, hts⟩ xR_S hK hX0 hS hP (c_X10_in hj l x2 0 2 f1 t y4 hq5) (va_cwS 3 hts gX10_errand_X10_in rfl rfl rfl (by decide +kernel) ⟨Nat.le_trans (Nat.le_of_ble_eq_true rfl) hR.1, Nat.le_trans (Nat.le_of_ble_eq_true rfl) hR.2⟩) rfl hl.1 rfl (Nat.le_of_ble_eq_true rfl) ⟨Nat.zero_le _, Nat.zero_le _⟩ dX10_errand_22 (fun H locs hP hS => ?_)
    refine lv_if_eq (tgt := 41) hx hb dX10_errand_25 (by decide) (fun c25 => ?_) (fun c25 => ?_)
    · have hf := itT hf c25
      refine lv_iconst (v := (-1)) hx hb dX10_errand_41 (by decide) ?_
      obtain ⟨rfl, rfl⟩ := Prod.mk.inj (Option.some.inj hf)
      exact kr H locs ls 42 dX10_errand_42 hP hS
    · have hf := itF hf c25
      refine lv_aload_n hx hb dX10_errand_28 rfl (lv_at hl 0 rfl) ?_
      refine va_get (D := D) (ci := 10) (v := .ref (ad 7)) (C := RX10) (T := TX10) (N := 34) hx hb hts hiX10 hown hK hP 0 rfl rfl 14 (by decide) lk28 (fun _ h9 => h9) rfl dX10_errand_29 ?_
      refine lv_iconst (v := 3) hx hb dX10_errand_32 (by decide) ?_
      refine lv_iload_n hx hb dX10_errand_33 rfl (lv_at hl 1 rfl) ?_
      refine lv_imul hx hb dX10_errand_34 ?_
      refine lv_iload_n hx hb dX10_errand_35 rfl (lv_at hl 2 rfl) ?_
      refine lv_iadd hx hb dX10_errand_36 ?_
      obtain ⟨hin6, hf⟩ := gi_out hf
      refine va_iald hx hb hK hP 7 1 rfl rfl hin6 dX10_errand_37 ?_
      refine lv_goto (tgt := 42) hx hb dX10_errand_38 (by decide) ?_
      obtain ⟨rfl, rfl⟩ := Prod.mk.inj (Option.some.inj hf)
      exact kr H locs ls 42 dX10_errand_42 hP hS
set_option maxHeartbeats 4000000 in
set_option maxRecDepth 100000 in
theorem c_X10_errand (hj : jR ad) (l : Launch) (x1 : Int32) (x2 : Int32) (f : mM) (t : Int64) (r : Int32) (fR : mM) (hf : q_X10_errand x1 x2 f = some (r, fR)) : Met l yX10_errand wsX10_errand ({ frames := 1, cells := 0, slots := 0, locals := 22 }) (va_Pc ([.ref (ad 0), .int x1, .int x2]) (pre D cy (wR ad cy) (xR) f t)) (va_Qi (fun (r2 : Int32) (u : mM × Int64) => r2 = r ∧ u = (fR, t)) (atW D (wR ad cy)) (aR ad)) 0 0 (aR ad) := by
  refine Met.ofW (cc := cX10_errand) (maxL := 3) (ret := (some .int)) (by decide) rfl ?_
  intro p e s m args below meth c s₁ B hml hv
  obtain ⟨rfl, hP, hK, hX0⟩ := hv
  have hl := lv_entry ([.ref (ad 0), .int x1, .int x2]) (n := 3) (Nat.le_of_ble_eq_true rfl)
  rw [lg_entry_eq]
  generalize (lg_sl ([.ref (ad 0), .int x1, .int x2]) ++ List.replicate (3 - (lg_sl ([.ref (ad 0), .int x1, .int x2])).length) Slot.unset).toArray = ls at hl ⊢
  have hlocks := B.notSynchronized
  exact b_X10_errand ⟨B.exec, B.bytes, B.returns, hml, findClass_of_methodNamed B.named, atoms_spec (ws := wsX10_errand) B.pre, hlocks, hK, hX0⟩ hj ⟨Nat.le_refl _, Nat.le_refl _⟩ x1 x2 f t r fR hf (fun H locs ls pc hd hP hS => W.iret B.exec B.bytes B.returns (fun t2 ht hW => ⟨⟨r, (fR, t), rfl, ⟨rfl, rfl⟩, by show va_P D vwCl _ t2.heap; rw [ht]; exact hP⟩, hS.F ht⟩) hS.2.2 hd) s.heap [] ls hP va_S.rf hl
def q_X10_takenBy (x1 : Int32) (x2 : Int32) (f : mM) : Option (Int32) := gi x1 8 (sq (fun (_ : Unit) => gi x1 8 (some (f 5 (Int32.toNatClampNeg x1)))) (fun k2 => if (f 6 (Int32.toNatClampNeg x1)) = 2 then nz 2 (if (x2 - x2 / 2 * 2) = 1 then some 0 else k2 ()) else k2 ()))
set_option maxHeartbeats 4000000 in
set_option maxRecDepth 100000 in
theorem b_X10_takenBy (C0 : cX p s m args meth c cX10_takenBy 3 (some .int) RX10 wsX10_takenBy D cy (xR)) (hj : jR ad) (hR : 0 ≤ R.frames ∧ 0 ≤ R.locals) (x1 : Int32) (x2 : Int32) (f : mM) (t : Int64) (r : Int32) (hf : q_X10_takenBy x1 x2 f = some r) (kr : ∀ (H : Heap) (locs : List Loc) (ls : Array Slot) (pc : Nat), decode cX10_takenBy pc = .ok (.ireturn, 1) → va_P D vwCl (wR ad cy f t) H → va_S (aR ad) s.heap H locs → W p l e R s m args below meth c H locs 0 0 Q (F0 m pc ls [.int r])) (H : Heap) (locs : List Loc) (ls : Array Slot) (hP : va_P D vwCl (wR ad cy f t) H) (hS : va_S (aR ad) s.heap H locs) (hl : lv_has ls 3 [(0, .ref (ad 0)), (1, .int x1), (2, .int x2)]) : W p l e R s m args below meth c H locs 0 0 Q (F0 m 0 ls []) := by
  obtain ⟨hx, hb, hr, hml, hown, hts, hlocks, hK, hX0⟩ := id C0
  have lk25 := hts (.fieldLink RX10 25 "PlankNineModel" "stride" "[I") (List.mem_of_getElem? (i := 1) rfl)
  have hiX10 : ∀ w ∈ u_ws RX10 TX10 34, w ∈ wsX10_takenBy := fun w h => List.mem_cons_of_mem _ (List.mem_append_right _ h)
  have lk22 := hts (.fieldLink RX10 22 "PlankNineModel" "weight" "[I") (List.mem_of_getElem? (i := 2) rfl)
  unfold q_X10_takenBy at hf
  refine lv_aload_n hx hb dX10_takenBy_0 rfl (lv_at hl 0 rfl) ?_
  refine va_get (D := D) (ci := 10) (v := .ref (ad 6)) (C := RX10) (T := TX10) (N := 34) hx hb hts hiX10 hown hK hP 0 rfl rfl 13 (by decide) lk25 (fun _ h9 => h9) rfl dX10_takenBy_1 ?_
  refine lv_iload_n hx hb dX10_takenBy_4 rfl (lv_at hl 1 rfl) ?_
  obtain ⟨hin1, hf⟩ := gi_out hf
  refine va_iald hx hb hK hP 6 1 rfl rfl hin1 dX10_takenBy_5 ?_
  refine lv_iconst (v := 2) hx hb dX10_takenBy_6 (by decide) ?_
  obtain ⟨k2, ek2, hf⟩ := sq_out hf
  have hk2 : k2 () = some r → ∀ (H : Heap) (locs : List Loc) (ls : Array Slot), va_P D vwCl (wR ad cy f t) H → va_S (aR ad) s.heap H locs → lv_has ls 3 [(0, .ref (ad 0)), (1, .int x1)] → W p l e R s m args below meth c H locs 0 0 Q (F0 m 21 ls []) := by
    intro hf H locs ls hP hS hl
    have hf := sk1 ek2 () hf
    refine lv_aload_n hx hb dX10_takenBy_21 rfl (lv_at hl 0 rfl) ?_
    refine va_get (D := D) (ci := 10) (v := .ref (ad 5)) (C := RX10) (T := TX10) (N := 34) hx hb hts hiX10 hown hK hP 0 rfl rfl 12 (by decide) lk22 (fun _ h9 => h9) rfl dX10_takenBy_22 ?_
    refine lv_iload_n hx hb dX10_takenBy_25 rfl (lv_at hl 1 rfl) ?_
    obtain ⟨hin3, hf⟩ := gi_out hf
    refine va_iald hx hb hK hP 5 1 rfl rfl hin3 dX10_takenBy_26 ?_
    obtain rfl := Option.some.inj hf
    exact kr H locs ls 27 dX10_takenBy_27 hP hS
  refine lv_icmp_ne (tgt := 21) hx hb dX10_takenBy_7 (by decide) (fun c7 => ?_) (fun c7 => ?_)
  · have hf := itF hf c7
    exact hk2 hf H locs ls hP hS (lv_sub hl [0, 1] rfl)
  · have hf := itT hf c7
    refine lv_iload_n hx hb dX10_takenBy_10 rfl (lv_at hl 2 rfl) ?_
    refine lv_iconst (v := 2) hx hb dX10_takenBy_11 (by decide) ?_
    obtain ⟨z4, hf⟩ := nz_out hf
    refine lv_irem hx hb dX10_takenBy_12 z4 ?_
    refine lv_iconst (v := 1) hx hb dX10_takenBy_13 (by decide) ?_
    refine lv_icmp_ne (tgt := 21) hx hb dX10_takenBy_14 (by decide) (fun c14 => ?_) (fun c14 => ?_)
    · have hf := itF hf c14
      exact hk2 hf H locs ls hP hS (lv_sub hl [0, 1] rfl)
    · have hf := itT hf c14
      refine lv_iconst (v := 0) hx hb dX10_takenBy_17 (by decide) ?_
      refine lv_goto (tgt := 27) hx hb dX10_takenBy_18 (by decide) ?_
      obtain rfl := Option.some.inj hf
      exact kr H locs ls 27 dX10_takenBy_27 hP hS
set_option maxHeartbeats 4000000 in
set_option maxRecDepth 100000 in
theorem c_X10_takenBy (hj : jR ad) (l : Launch) (x1 : Int32) (x2 : Int32) (f : mM) (t : Int64) (r : Int32) (hf : q_X10_takenBy x1 x2 f = some r) : Met l yX10_takenBy wsX10_takenBy ({ frames := 0, cells := 0, slots := 0, locals := 0 }) (va_Pc ([.ref (ad 0), .int x1, .int x2]) (pre D cy (wR ad cy) (xR) f t)) (va_Qi (fun (r2 : Int32) (u : mM × Int64) => r2 = r ∧ u = (f, t)) (atW D (wR ad cy)) (aR ad)) 0 0 (aR ad) := by
  refine Met.ofW (cc := cX10_takenBy) (maxL := 3) (ret := (some .int)) (by decide) rfl ?_
  intro p e s m args below meth c s₁ B hml hv
  obtain ⟨rfl, hP, hK, hX0⟩ := hv
  have hl := lv_entry ([.ref (ad 0), .int x1, .int x2]) (n := 3) (Nat.le_of_ble_eq_true rfl)
  rw [lg_entry_eq]
  generalize (lg_sl ([.ref (ad 0), .int x1, .int x2]) ++ List.replicate (3 - (lg_sl ([.ref (ad 0), .int x1, .int x2])).length) Slot.unset).toArray = ls at hl ⊢
  have hlocks := B.notSynchronized
  exact b_X10_takenBy ⟨B.exec, B.bytes, B.returns, hml, findClass_of_methodNamed B.named, atoms_spec (ws := wsX10_takenBy) B.pre, hlocks, hK, hX0⟩ hj ⟨Nat.le_refl _, Nat.le_refl _⟩ x1 x2 f t r hf (fun H locs ls pc hd hP hS => W.iret B.exec B.bytes B.returns (fun t2 ht hW => ⟨⟨r, (f, t), rfl, ⟨rfl, rfl⟩, by show va_P D vwCl _ t2.heap; rw [ht]; exact hP⟩, hS.F ht⟩) hS.2.2 hd) s.heap [] ls hP va_S.rf hl
def q_X10_across (x1 : Int32) (x2 : Int32) (f : mM) : Option (Int32) := gi x1 18 (if (f 2 (Int32.toNatClampNeg x1)) = x2 then gi x1 18 (some (f 3 (Int32.toNatClampNeg x1))) else gi x1 18 (if (f 3 (Int32.toNatClampNeg x1)) = x2 then gi x1 18 (some (f 2 (Int32.toNatClampNeg x1))) else some (-9)))
set_option maxHeartbeats 4000000 in
set_option maxRecDepth 100000 in
theorem b_X10_across (C0 : cX p s m args meth c cX10_across 3 (some .int) RX10 wsX10_across D cy (xR)) (hj : jR ad) (hR : 0 ≤ R.frames ∧ 0 ≤ R.locals) (x1 : Int32) (x2 : Int32) (f : mM) (t : Int64) (r : Int32) (hf : q_X10_across x1 x2 f = some r) (kr : ∀ (H : Heap) (locs : List Loc) (ls : Array Slot) (pc : Nat), decode cX10_across pc = .ok (.ireturn, 1) → va_P D vwCl (wR ad cy f t) H → va_S (aR ad) s.heap H locs → W p l e R s m args below meth c H locs 0 0 Q (F0 m pc ls [.int r])) (H : Heap) (locs : List Loc) (ls : Array Slot) (hP : va_P D vwCl (wR ad cy f t) H) (hS : va_S (aR ad) s.heap H locs) (hl : lv_has ls 3 [(0, .ref (ad 0)), (1, .int x1), (2, .int x2)]) : W p l e R s m args below meth c H locs 0 0 Q (F0 m 0 ls []) := by
  obtain ⟨hx, hb, hr, hml, hown, hts, hlocks, hK, hX0⟩ := id C0
  have lk13 := hts (.fieldLink RX10 13 "PlankNineModel" "one" "[I") (List.mem_of_getElem? (i := 1) rfl)
  have hiX10 : ∀ w ∈ u_ws RX10 TX10 34, w ∈ wsX10_across := fun w h => List.mem_cons_of_mem _ (List.mem_append_right _ h)
  have lk16 := hts (.fieldLink RX10 16 "PlankNineModel" "other" "[I") (List.mem_of_getElem? (i := 2) rfl)
  unfold q_X10_across at hf
  refine lv_aload_n hx hb dX10_across_0 rfl (lv_at hl 0 rfl) ?_
  refine va_get (D := D) (ci := 10) (v := .ref (ad 2)) (C := RX10) (T := TX10) (N := 34) hx hb hts hiX10 hown hK hP 0 rfl rfl 9 (by decide) lk13 (fun _ h9 => h9) rfl dX10_across_1 ?_
  refine lv_iload_n hx hb dX10_across_4 rfl (lv_at hl 1 rfl) ?_
  obtain ⟨hin1, hf⟩ := gi_out hf
  refine va_iald hx hb hK hP 2 1 rfl rfl hin1 dX10_across_5 ?_
  refine lv_iload_n hx hb dX10_across_6 rfl (lv_at hl 2 rfl) ?_
  refine lv_icmp_ne (tgt := 19) hx hb dX10_across_7 (by decide) (fun c7 => ?_) (fun c7 => ?_)
  · have hf := itF hf c7
    refine lv_aload_n hx hb dX10_across_19 rfl (lv_at hl 0 rfl) ?_
    refine va_get (D := D) (ci := 10) (v := .ref (ad 3)) (C := RX10) (T := TX10) (N := 34) hx hb hts hiX10 hown hK hP 0 rfl rfl 10 (by decide) lk16 (fun _ h9 => h9) rfl dX10_across_20 ?_
    refine lv_iload_n hx hb dX10_across_23 rfl (lv_at hl 1 rfl) ?_
    obtain ⟨hin2, hf⟩ := gi_out hf
    refine va_iald hx hb hK hP 3 1 rfl rfl hin2 dX10_across_24 ?_
    refine lv_iload_n hx hb dX10_across_25 rfl (lv_at hl 2 rfl) ?_
    refine lv_icmp_ne (tgt := 38) hx hb dX10_across_26 (by decide) (fun c26 => ?_) (fun c26 => ?_)
    · have hf := itF hf c26
      refine lv_bipush (v := (-9)) hx hb dX10_across_38 (by decide) ?_
      obtain rfl := Option.some.inj hf
      exact kr H locs ls 40 dX10_across_40 hP hS
    · have hf := itT hf c26
      refine lv_aload_n hx hb dX10_across_29 rfl (lv_at hl 0 rfl) ?_
      refine va_get (D := D) (ci := 10) (v := .ref (ad 2)) (C := RX10) (T := TX10) (N := 34) hx hb hts hiX10 hown hK hP 0 rfl rfl 9 (by decide) lk13 (fun _ h9 => h9) rfl dX10_across_30 ?_
      refine lv_iload_n hx hb dX10_across_33 rfl (lv_at hl 1 rfl) ?_
      obtain ⟨hin3, hf⟩ := gi_out hf
      refine va_iald hx hb hK hP 2 1 rfl rfl hin3 dX10_across_34 ?_
      refine lv_goto (tgt := 40) hx hb dX10_across_35 (by decide) ?_
      obtain rfl := Option.some.inj hf
      exact kr H locs ls 40 dX10_across_40 hP hS
  · have hf := itT hf c7
    refine lv_aload_n hx hb dX10_across_10 rfl (lv_at hl 0 rfl) ?_
    refine va_get (D := D) (ci := 10) (v := .ref (ad 3)) (C := RX10) (T := TX10) (N := 34) hx hb hts hiX10 hown hK hP 0 rfl rfl 10 (by decide) lk16 (fun _ h9 => h9) rfl dX10_across_11 ?_
    refine lv_iload_n hx hb dX10_across_14 rfl (lv_at hl 1 rfl) ?_
    obtain ⟨hin4, hf⟩ := gi_out hf
    refine va_iald hx hb hK hP 3 1 rfl rfl hin4 dX10_across_15 ?_
    refine lv_goto (tgt := 40) hx hb dX10_across_16 (by decide) ?_
    obtain rfl := Option.some.inj hf
    exact kr H locs ls 40 dX10_across_40 hP hS
set_option maxHeartbeats 4000000 in
set_option maxRecDepth 100000 in
theorem c_X10_across (hj : jR ad) (l : Launch) (x1 : Int32) (x2 : Int32) (f : mM) (t : Int64) (r : Int32) (hf : q_X10_across x1 x2 f = some r) : Met l yX10_across wsX10_across ({ frames := 0, cells := 0, slots := 0, locals := 0 }) (va_Pc ([.ref (ad 0), .int x1, .int x2]) (pre D cy (wR ad cy) (xR) f t)) (va_Qi (fun (r2 : Int32) (u : mM × Int64) => r2 = r ∧ u = (f, t)) (atW D (wR ad cy)) (aR ad)) 0 0 (aR ad) := by
  refine Met.ofW (cc := cX10_across) (maxL := 3) (ret := (some .int)) (by decide) rfl ?_
  intro p e s m args below meth c s₁ B hml hv
  obtain ⟨rfl, hP, hK, hX0⟩ := hv
  have hl := lv_entry ([.ref (ad 0), .int x1, .int x2]) (n := 3) (Nat.le_of_ble_eq_true rfl)
  rw [lg_entry_eq]
  generalize (lg_sl ([.ref (ad 0), .int x1, .int x2]) ++ List.replicate (3 - (lg_sl ([.ref (ad 0), .int x1, .int x2])).length) Slot.unset).toArray = ls at hl ⊢
  have hlocks := B.notSynchronized
  exact b_X10_across ⟨B.exec, B.bytes, B.returns, hml, findClass_of_methodNamed B.named, atoms_spec (ws := wsX10_across) B.pre, hlocks, hK, hX0⟩ hj ⟨Nat.le_refl _, Nat.le_refl _⟩ x1 x2 f t r hf (fun H locs ls pc hd hP hS => W.iret B.exec B.bytes B.returns (fun t2 ht hW => ⟨⟨r, (f, t), rfl, ⟨rfl, rfl⟩, by show va_P D vwCl _ t2.heap; rw [ht]; exact hP⟩, hS.F ht⟩) hS.2.2 hd) s.heap [] ls hP va_S.rf hl
def lp_X10_nextPlank_40 (N : Nat) (x1 : Int32) (x3 : Int32) (x4 : Int32) (x5 : Int32) (f : mM) : Nat → Int32 → Int32 → Option (Int32)
  | 0, _, _ => none
  | n + 1, x6, x7 => if x3 < x7 then some x6 else sq (fun (_ : Unit) => sq (x7 + 1) (fun x7_7 => lp_X10_nextPlank_40 N x1 x3 x4 x5 f n 0 x7_7)) (fun k6 => if x6 = 0 then k6 () else gi x7 7 (if (f 12 (Int32.toNatClampNeg x7)) = x5 then k6 () else sq (x7 + 1) (fun x7_9 => lp_X10_nextPlank_40 N x1 x3 x4 x5 f n 1 x7_9)))
theorem lp_X10_nextPlank_40_s (N : Nat) (x1 : Int32) (x3 : Int32) (x4 : Int32) (x5 : Int32) (f : mM) (n : Nat) (x6 : Int32) (x7 : Int32) : lp_X10_nextPlank_40 N x1 x3 x4 x5 f (n + 1) x6 x7 = (if x3 < x7 then some x6 else sq (fun (_ : Unit) => sq (x7 + 1) (fun x7_7 => lp_X10_nextPlank_40 N x1 x3 x4 x5 f n 0 x7_7)) (fun k6 => if x6 = 0 then k6 () else gi x7 7 (if (f 12 (Int32.toNatClampNeg x7)) = x5 then k6 () else sq (x7 + 1) (fun x7_9 => lp_X10_nextPlank_40 N x1 x3 x4 x5 f n 1 x7_9)))) := rfl
set_option maxHeartbeats 4000000 in
set_option maxRecDepth 100000 in
theorem lp_X10_nextPlank_40_w (C0 : cX p s m args meth c cX10_nextPlank 8 (some .int) RX10 wsX10_nextPlank D cy (xR)) (hj : jR ad) (hR : 1 ≤ R.frames ∧ 22 ≤ R.locals) (N : Nat) (x1 : Int32) (x3 : Int32) (x4 : Int32) (x5 : Int32) (f : mM) (t : Int64) (r6 : Int32) (kx76 : ∀ (H : Heap) (locs : List Loc) (ls : Array Slot), va_P D vwCl (wR ad cy f t) H → va_S (aR ad) s.heap H locs → lv_has ls 8 [(0, .ref (ad 0)), (1, .int x1), (3, .int x3), (4, .int x4), (6, .int r6)] → W p l e R s m args below meth c H locs 0 0 Q (F0 m 76 ls [])) : ∀ (n : Nat) (x6 : Int32) (x7 : Int32), lp_X10_nextPlank_40 N x1 x3 x4 x5 f n x6 x7 = some r6 → ∀ (H : Heap) (locs : List Loc) (ls : Array Slot), va_P D vwCl (wR ad cy f t) H → va_S (aR ad) s.heap H locs → lv_has ls 8 [(0, .ref (ad 0)), (1, .int x1), (3, .int x3), (4, .int x4), (5, .int x5), (6, .int x6), (7, .int x7)] → W p l e R s m args below meth c H locs 0 0 Q (F0 m 40 ls []) := by
  obtain ⟨hx, hb, hr, hml, hown, hts, hlocks, hK, hX0⟩ := id C0
  have lk44 := hts (.fieldLink RX10 44 "PlankNineModel" "at" "[I") (List.mem_of_getElem? (i := 2) rfl)
  have hiX10 : ∀ w ∈ u_ws RX10 TX10 34, w ∈ wsX10_nextPlank := fun w h => List.mem_cons_of_mem _ (List.mem_append_right _ h)
  intro n
  induction n with
  | zero =>
    intro x6 x7 hf
    exact no_none hf
  | succ n ih =>
    intro x6 x7 hf H locs ls hP hS hl
    have hf := (lp_X10_nextPlank_40_s N x1 x3 x4 x5 f n x6 x7).symm.trans hf
    refine lv_iload hx hb dX10_nextPlank_40 (lv_at hl 6 rfl) ?_
    refine lv_iload_n hx hb dX10_nextPlank_42 rfl (lv_at hl 2 rfl) ?_
    refine lv_icmp_gt (tgt := 76) hx hb dX10_nextPlank_43 (by decide) (fun c43 => ?_) (fun c43 => ?_)
    · have hf := itT hf c43
      obtain rfl := Option.some.inj hf
      exact kx76 H locs ls hP hS (lv_sub hl [0, 1, 2, 3, 5] rfl)
    · have hf := itF hf c43
      refine lv_iload hx hb dX10_nextPlank_46 (lv_at hl 5 rfl) ?_
      obtain ⟨k6, ek6, hf⟩ := sq_out hf
      have hk6 : k6 () = some r6 → ∀ (H : Heap) (locs : List Loc) (ls : Array Slot), va_P D vwCl (wR ad cy f t) H → va_S (aR ad) s.heap H locs → lv_has ls 8 [(0, .ref (ad 0)), (1, .int x1), (3, .int x3), (4, .int x4), (5, .int x5), (7, .int x7)] → W p l e R s m args below meth c H locs 0 0 Q (F0 m 67 ls []) := by
        intro hf H locs ls hP hS hl
        have hf := sk1 ek6 () hf
        refine lv_iconst (v := 0) hx hb dX10_nextPlank_67 (by decide) ?_
        refine lv_istore (lv' := [(6, .int 0), (0, .ref (ad 0)), (1, .int x1), (3, .int x3), (4, .int x4), (5, .int x5), (7, .int x7)]) hx hb dX10_nextPlank_68 hl (by decide) rfl (fun ls hl => ?_)
        obtain ⟨x7_7, ex7_7, hf⟩ := sq_out hf
        refine lv_iinc (v := x7_7) (lv' := [(7, .int x7_7), (6, .int 0), (0, .ref (ad 0)), (1, .int x1), (3, .int x3), (4, .int x4), (5, .int x5)]) hx hb dX10_nextPlank_70 hl (k := 6) rfl (by rw [ex7_7]; rfl) (by decide) rfl (fun ls hl => ?_)
        refine lv_goto (tgt := 40) hx hb dX10_nextPlank_73 (by decide) ?_
        exact ih 0 x7_7 hf H locs ls hP hS (lv_sub hl [2, 3, 4, 5, 6, 1, 0] rfl)
      refine lv_if_eq (tgt := 67) hx hb dX10_nextPlank_48 (by decide) (fun c48 => ?_) (fun c48 => ?_)
      · have hf := itT hf c48
        exact hk6 hf H locs ls hP hS (lv_sub hl [0, 1, 2, 3, 4, 6] rfl)
      · have hf := itF hf c48
        refine lv_aload_n hx hb dX10_nextPlank_51 rfl (lv_at hl 0 rfl) ?_
        refine va_get (D := D) (ci := 10) (v := .ref (ad 12)) (C := RX10) (T := TX10) (N := 34) hx hb hts hiX10 hown hK hP 0 rfl rfl 27 (by decide) lk44 (fun _ h9 => h9) rfl dX10_nextPlank_52 ?_
        refine lv_iload hx hb dX10_nextPlank_55 (lv_at hl 6 rfl) ?_
        obtain ⟨hin8, hf⟩ := gi_out hf
        refine va_iald hx hb hK hP 12 1 rfl rfl hin8 dX10_nextPlank_57 ?_
        refine lv_iload hx hb dX10_nextPlank_58 (lv_at hl 4 rfl) ?_
        refine lv_icmp_eq (tgt := 67) hx hb dX10_nextPlank_60 (by decide) (fun c60 => ?_) (fun c60 => ?_)
        · have hf := itT hf c60
          exact hk6 hf H locs ls hP hS (lv_sub hl [0, 1, 2, 3, 4, 6] rfl)
        · have hf := itF hf c60
          refine lv_iconst (v := 1) hx hb dX10_nextPlank_63 (by decide) ?_
          refine lv_goto (tgt := 68) hx hb dX10_nextPlank_64 (by decide) ?_
          refine lv_istore (lv' := [(6, .int 1), (0, .ref (ad 0)), (1, .int x1), (3, .int x3), (4, .int x4), (5, .int x5), (7, .int x7)]) hx hb dX10_nextPlank_68 hl (by decide) rfl (fun ls hl => ?_)
          obtain ⟨x7_9, ex7_9, hf⟩ := sq_out hf
          refine lv_iinc (v := x7_9) (lv' := [(7, .int x7_9), (6, .int 1), (0, .ref (ad 0)), (1, .int x1), (3, .int x3), (4, .int x4), (5, .int x5)]) hx hb dX10_nextPlank_70 hl (k := 6) rfl (by rw [ex7_9]; rfl) (by decide) rfl (fun ls hl => ?_)
          refine lv_goto (tgt := 40) hx hb dX10_nextPlank_73 (by decide) ?_
          exact ih 1 x7_9 hf H locs ls hP hS (lv_sub hl [2, 3, 4, 5, 6, 1, 0] rfl)
def lp_X10_nextPlank_5 (N : Nat) (x1 : Int32) (x3 : Int32) (f : mM) : Nat → Int32 → Option (Nat × Int32)
  | 0, _ => none
  | n + 1, x4 => if (f 0 16) ≤ x4 then some (1, x4) else bi (q_X10_across x4 x1 f) (fun y2 => sq (fun (v4 : Int32) => bi (lp_X10_nextPlank_40 N x1 x3 x4 y2 f N v4 0) (fun y10 => if y10 = 0 then sq (x4 + 1) (fun x4_12 => lp_X10_nextPlank_5 N x1 x3 f n x4_12) else some (0, x4))) (fun k5 => if y2 = (-9) then k5 0 else k5 1))
theorem lp_X10_nextPlank_5_s (N : Nat) (x1 : Int32) (x3 : Int32) (f : mM) (n : Nat) (x4 : Int32) : lp_X10_nextPlank_5 N x1 x3 f (n + 1) x4 = (if (f 0 16) ≤ x4 then some (1, x4) else bi (q_X10_across x4 x1 f) (fun y2 => sq (fun (v4 : Int32) => bi (lp_X10_nextPlank_40 N x1 x3 x4 y2 f N v4 0) (fun y10 => if y10 = 0 then sq (x4 + 1) (fun x4_12 => lp_X10_nextPlank_5 N x1 x3 f n x4_12) else some (0, x4))) (fun k5 => if y2 = (-9) then k5 0 else k5 1))) := rfl
set_option maxHeartbeats 4000000 in
set_option maxRecDepth 100000 in
theorem lp_X10_nextPlank_5_w (C0 : cX p s m args meth c cX10_nextPlank 8 (some .int) RX10 wsX10_nextPlank D cy (xR)) (hj : jR ad) (hR : 1 ≤ R.frames ∧ 22 ≤ R.locals) (N : Nat) (x1 : Int32) (x3 : Int32) (f : mM) (t : Int64) (g0 : Nat) (r4 : Int32) (kx81 : g0 = 0 → ∀ (H : Heap) (locs : List Loc) (ls : Array Slot), va_P D vwCl (wR ad cy f t) H → va_S (aR ad) s.heap H locs → lv_has ls 8 [(4, .int r4)] → W p l e R s m args below meth c H locs 0 0 Q (F0 m 81 ls [])) (kx90 : g0 = 1 → ∀ (H : Heap) (locs : List Loc) (ls : Array Slot), va_P D vwCl (wR ad cy f t) H → va_S (aR ad) s.heap H locs → lv_has ls 8 [(0, .ref (ad 0))] → W p l e R s m args below meth c H locs 0 0 Q (F0 m 90 ls [])) : ∀ (n : Nat) (x4 : Int32), lp_X10_nextPlank_5 N x1 x3 f n x4 = some (g0, r4) → ∀ (H : Heap) (locs : List Loc) (ls : Array Slot), va_P D vwCl (wR ad cy f t) H → va_S (aR ad) s.heap H locs → lv_has ls 8 [(0, .ref (ad 0)), (1, .int x1), (3, .int x3), (4, .int x4)] → W p l e R s m args below meth c H locs 0 0 Q (F0 m 5 ls []) := by
  obtain ⟨hx, hb, hr, hml, hown, hts, hlocks, hK, hX0⟩ := id C0
  have lk148 := hts (.fieldLink RX10 148 "PlankNineModel" "planks" "I") (List.mem_of_getElem? (i := 1) rfl)
  have hiX10 : ∀ w ∈ u_ws RX10 TX10 34, w ∈ wsX10_nextPlank := fun w h => List.mem_cons_of_mem _ (List.mem_append_right _ h)
  intro n
  induction n with
  | zero =>
    intro x4 hf
    exact no_none hf
  | succ n ih =>
    intro x4 hf H locs ls hP hS hl
    have hf := (lp_X10_nextPlank_5_s N x1 x3 f n x4).symm.trans hf
    refine lv_iload hx hb dX10_nextPlank_5 (lv_at hl 3 rfl) ?_
    refine lv_aload_n hx hb dX10_nextPlank_7 rfl (lv_at hl 0 rfl) ?_
    refine va_get (D := D) (ci := 10) (v := .int (f 0 16)) (C := RX10) (T := TX10) (N := 34) hx hb hts hiX10 hown hK hP 0 rfl rfl 16 (by decide) lk148 (fun _ h9 => h9) rfl dX10_nextPlank_8 ?_
    refine lv_icmp_ge (tgt := 90) hx hb dX10_nextPlank_11 (by decide) (fun c11 => ?_) (fun c11 => ?_)
    · have hf := itT hf c11
      have hg_0 := Option.some.inj hf
      obtain ⟨rfl, rfl⟩ := Prod.mk.inj hg_0
      exact kx90 rfl H locs ls hP hS (lv_sub hl [0] rfl)
    · have hf := itF hf c11
      refine lv_aload_n hx hb dX10_nextPlank_14 rfl (lv_at hl 0 rfl) ?_
      refine lv_iload hx hb dX10_nextPlank_15 (lv_at hl 3 rfl) ?_
      refine lv_iload_n hx hb dX10_nextPlank_17 rfl (lv_at hl 1 rfl) ?_
      obtain ⟨y2, hq3, hf⟩ := bi_out hf
      refine cw_vi (As := [.int x4, .int x1]) (rest := []) ⟨hx, hb, hml, hown, hts⟩ xR_S hK hX0 hS hP (c_X10_across hj l x4 x1 f t y2 hq3) (cwV 2 hts gX10_nextPlank_X10_across rfl rfl rfl (by decide +kernel) ⟨Nat.le_trans (Nat.le_of_ble_eq_true rfl) hR.1, Nat.le_trans (Nat.le_of_ble_eq_true rfl) hR.2⟩) (va_recv hK hP (ci := 10) (q0 := 0) rfl rfl) rfl hl.1 rfl (Nat.le_of_ble_eq_true rfl) ⟨Nat.zero_le _, Nat.zero_le _⟩ dX10_nextPlank_18 (fun H locs hP hS => ?_)
      refine lv_istore (lv' := [(5, .int y2), (0, .ref (ad 0)), (1, .int x1), (3, .int x3), (4, .int x4)]) hx hb dX10_nextPlank_21 hl (by decide) rfl (fun ls hl => ?_)
      refine lv_iload hx hb dX10_nextPlank_23 (lv_at hl 0 rfl) ?_
      refine lv_bipush (v := (-9)) hx hb dX10_nextPlank_25 (by decide) ?_
      obtain ⟨k5, ek5, hf⟩ := sq_out hf
      have hk5 : ∀ (v4 : Int32), k5 v4 = some (g0, r4) → ∀ (H : Heap) (locs : List Loc) (ls : Array Slot), va_P D vwCl (wR ad cy f t) H → va_S (aR ad) s.heap H locs → lv_has ls 8 [(0, .ref (ad 0)), (1, .int x1), (3, .int x3), (4, .int x4), (5, .int y2)] → W p l e R s m args below meth c H locs 0 0 Q (F0 m 35 ls [.int v4]) := by
        intro v4 hf H locs ls hP hS hl
        have hf := sk1 ek5 v4 hf
        refine lv_istore (lv' := [(6, .int v4), (0, .ref (ad 0)), (1, .int x1), (3, .int x3), (4, .int x4), (5, .int y2)]) hx hb dX10_nextPlank_35 hl (by decide) rfl (fun ls hl => ?_)
        refine lv_iconst (v := 0) hx hb dX10_nextPlank_37 (by decide) ?_
        refine lv_istore (lv' := [(7, .int 0), (6, .int v4), (0, .ref (ad 0)), (1, .int x1), (3, .int x3), (4, .int x4), (5, .int y2)]) hx hb dX10_nextPlank_38 hl (by decide) rfl (fun ls hl => ?_)
        obtain ⟨y10, hlp11, hf⟩ := bi_out hf
        refine lp_X10_nextPlank_40_w C0 hj hR N x1 x3 x4 y2 f t y10 ?_ N v4 0 hlp11 H locs ls hP hS (lv_sub hl [2, 3, 4, 5, 6, 1, 0] rfl)
        intro H locs ls hP hS hl
        refine lv_iload hx hb dX10_nextPlank_76 (lv_at hl 4 rfl) ?_
        refine lv_if_eq (tgt := 84) hx hb dX10_nextPlank_78 (by decide) (fun c78 => ?_) (fun c78 => ?_)
        · have hf := itT hf c78
          obtain ⟨x4_12, ex4_12, hf⟩ := sq_out hf
          refine lv_iinc (v := x4_12) (lv' := [(4, .int x4_12), (0, .ref (ad 0)), (1, .int x1), (3, .int x3), (6, .int y10)]) hx hb dX10_nextPlank_84 hl (k := 3) rfl (by rw [ex4_12]; rfl) (by decide) rfl (fun ls hl => ?_)
          refine lv_goto (tgt := 5) hx hb dX10_nextPlank_87 (by decide) ?_
          exact ih x4_12 hf H locs ls hP hS (lv_sub hl [1, 2, 3, 0] rfl)
        · have hf := itF hf c78
          have hg_0 := Option.some.inj hf
          obtain ⟨rfl, rfl⟩ := Prod.mk.inj hg_0
          exact kx81 rfl H locs ls hP hS (lv_sub hl [3] rfl)
      refine lv_icmp_eq (tgt := 34) hx hb dX10_nextPlank_27 (by decide) (fun c27 => ?_) (fun c27 => ?_)
      · have hf := itT hf c27
        refine lv_iconst (v := 0) hx hb dX10_nextPlank_34 (by decide) ?_
        exact hk5 0 hf H locs ls hP hS (lv_sub hl [1, 2, 3, 4, 0] rfl)
      · have hf := itF hf c27
        refine lv_iconst (v := 1) hx hb dX10_nextPlank_30 (by decide) ?_
        refine lv_goto (tgt := 35) hx hb dX10_nextPlank_31 (by decide) ?_
        exact hk5 1 hf H locs ls hP hS (lv_sub hl [1, 2, 3, 4, 0] rfl)
def q_X10_nextPlank (N : Nat) (x1 : Int32) (x2 : Int32) (x3 : Int32) (f : mM) : Option (Int32) := sq (x2 + 1) (fun x4_1 => bi2 (lp_X10_nextPlank_5 N x1 x3 f N x4_1) (fun g13 y14 => if g13 = 0 then some y14 else if g13 = 1 then some (f 0 16) else none))
set_option maxHeartbeats 4000000 in
set_option maxRecDepth 100000 in
theorem b_X10_nextPlank (C0 : cX p s m args meth c cX10_nextPlank 8 (some .int) RX10 wsX10_nextPlank D cy (xR)) (hj : jR ad) (hR : 1 ≤ R.frames ∧ 22 ≤ R.locals) (N : Nat) (x1 : Int32) (x2 : Int32) (x3 : Int32) (f : mM) (t : Int64) (r : Int32) (hf : q_X10_nextPlank N x1 x2 x3 f = some r) (kr : ∀ (H : Heap) (locs : List Loc) (ls : Array Slot) (pc : Nat), decode cX10_nextPlank pc = .ok (.ireturn, 1) → va_P D vwCl (wR ad cy f t) H → va_S (aR ad) s.heap H locs → W p l e R s m args below meth c H locs 0 0 Q (F0 m pc ls [.int r])) (H : Heap) (locs : List Loc) (ls : Array Slot) (hP : va_P D vwCl (wR ad cy f t) H) (hS : va_S (aR ad) s.heap H locs) (hl : lv_has ls 8 [(0, .ref (ad 0)), (1, .int x1), (2, .int x2), (3, .int x3)]) : W p l e R s m args below meth c H locs 0 0 Q (F0 m 0 ls []) := by
  obtain ⟨hx, hb, hr, hml, hown, hts, hlocks, hK, hX0⟩ := id C0
  have lk148 := hts (.fieldLink RX10 148 "PlankNineModel" "planks" "I") (List.mem_of_getElem? (i := 1) rfl)
  have hiX10 : ∀ w ∈ u_ws RX10 TX10 34, w ∈ wsX10_nextPlank := fun w h => List.mem_cons_of_mem _ (List.mem_append_right _ h)
  unfold q_X10_nextPlank at hf
  refine lv_iload_n hx hb dX10_nextPlank_0 rfl (lv_at hl 2 rfl) ?_
  refine lv_iconst (v := 1) hx hb dX10_nextPlank_1 (by decide) ?_
  refine lv_iadd hx hb dX10_nextPlank_2 ?_
  obtain ⟨x4_1, ex4_1, hf⟩ := sq_out hf
  refine lv_nmi ex4_1 ?_
  refine lv_istore (lv' := [(4, .int x4_1), (0, .ref (ad 0)), (1, .int x1), (2, .int x2), (3, .int x3)]) hx hb dX10_nextPlank_3 hl (by decide) rfl (fun ls hl => ?_)
  obtain ⟨g13, y14, hlp15, hf⟩ := bi2_out hf
  refine lp_X10_nextPlank_5_w C0 hj hR N x1 x3 f t g13 y14 ?_ ?_ N x4_1 hlp15 H locs ls hP hS (lv_sub hl [1, 2, 4, 0] rfl)
  · intro hg H locs ls hP hS hl
    have hf := itT hf hg
    refine lv_iload hx hb dX10_nextPlank_81 (lv_at hl 0 rfl) ?_
    obtain rfl := Option.some.inj hf
    exact kr H locs ls 83 dX10_nextPlank_83 hP hS
  · intro hg H locs ls hP hS hl
    have hf := itF hf (by rw [hg]; decide)
    have hf := itT hf hg
    refine lv_aload_n hx hb dX10_nextPlank_90 rfl (lv_at hl 0 rfl) ?_
    refine va_get (D := D) (ci := 10) (v := .int (f 0 16)) (C := RX10) (T := TX10) (N := 34) hx hb hts hiX10 hown hK hP 0 rfl rfl 16 (by decide) lk148 (fun _ h9 => h9) rfl dX10_nextPlank_91 ?_
    obtain rfl := Option.some.inj hf
    exact kr H locs ls 94 dX10_nextPlank_94 hP hS
set_option maxHeartbeats 4000000 in
set_option maxRecDepth 100000 in
theorem c_X10_nextPlank (hj : jR ad) (l : Launch) (N : Nat) (x1 : Int32) (x2 : Int32) (x3 : Int32) (f : mM) (t : Int64) (r : Int32) (hf : q_X10_nextPlank N x1 x2 x3 f = some r) : Met l yX10_nextPlank wsX10_nextPlank ({ frames := 1, cells := 0, slots := 0, locals := 22 }) (va_Pc ([.ref (ad 0), .int x1, .int x2, .int x3]) (pre D cy (wR ad cy) (xR) f t)) (va_Qi (fun (r2 : Int32) (u : mM × Int64) => r2 = r ∧ u = (f, t)) (atW D (wR ad cy)) (aR ad)) 0 0 (aR ad) := by
  refine Met.ofW (cc := cX10_nextPlank) (maxL := 8) (ret := (some .int)) (by decide) rfl ?_
  intro p e s m args below meth c s₁ B hml hv
  obtain ⟨rfl, hP, hK, hX0⟩ := hv
  have hl := lv_entry ([.ref (ad 0), .int x1, .int x2, .int x3]) (n := 8) (Nat.le_of_ble_eq_true rfl)
  rw [lg_entry_eq]
  generalize (lg_sl ([.ref (ad 0), .int x1, .int x2, .int x3]) ++ List.replicate (8 - (lg_sl ([.ref (ad 0), .int x1, .int x2, .int x3])).length) Slot.unset).toArray = ls at hl ⊢
  have hlocks := B.notSynchronized
  exact b_X10_nextPlank ⟨B.exec, B.bytes, B.returns, hml, findClass_of_methodNamed B.named, atoms_spec (ws := wsX10_nextPlank) B.pre, hlocks, hK, hX0⟩ hj ⟨Nat.le_refl _, Nat.le_refl _⟩ N x1 x2 x3 f t r hf (fun H locs ls pc hd hP hS => W.iret B.exec B.bytes B.returns (fun t2 ht hW => ⟨⟨r, (f, t), rfl, ⟨rfl, rfl⟩, by show va_P D vwCl _ t2.heap; rw [ht]; exact hP⟩, hS.F ht⟩) hS.2.2 hd) s.heap [] ls hP va_S.rf hl
def lp_X10_firstWay_164 (N : Nat) (x1 : Int32) (x3 : Int32) (x4 : Int32) (x5 : Int32) : Nat → Int32 → mM → Option (mM)
  | 0, _, _ => none
  | n + 1, x7, f => if x5 < x7 then some f else gi x7 6 (gi x7 6 (sq (st2 f 13 (Int32.toNatClampNeg x7) (f 11 (Int32.toNatClampNeg x7))) (fun f30 => sq (x7 + 1) (fun x7_31 => lp_X10_firstWay_164 N x1 x3 x4 x5 n x7_31 f30))))
theorem lp_X10_firstWay_164_s (N : Nat) (x1 : Int32) (x3 : Int32) (x4 : Int32) (x5 : Int32) (n : Nat) (x7 : Int32) (f : mM) : lp_X10_firstWay_164 N x1 x3 x4 x5 (n + 1) x7 f = (if x5 < x7 then some f else gi x7 6 (gi x7 6 (sq (st2 f 13 (Int32.toNatClampNeg x7) (f 11 (Int32.toNatClampNeg x7))) (fun f30 => sq (x7 + 1) (fun x7_31 => lp_X10_firstWay_164 N x1 x3 x4 x5 n x7_31 f30))))) := rfl
set_option maxHeartbeats 4000000 in
set_option maxRecDepth 100000 in
theorem lp_X10_firstWay_164_w (C0 : cX p s m args meth c cX10_firstWay 8 (some .int) RX10 wsX10_firstWay D cy (xR)) (hj : jR ad) (hR : 2 ≤ R.frames ∧ 49 ≤ R.locals) (N : Nat) (x1 : Int32) (x3 : Int32) (x4 : Int32) (x5 : Int32) (t : Int64) (fR : mM) (kx191 : ∀ (H : Heap) (locs : List Loc) (ls : Array Slot), va_P D vwCl (wR ad cy fR t) H → va_S (aR ad) s.heap H locs → lv_has ls 8 [(0, .ref (ad 0)), (1, .int x1), (3, .int x3), (4, .int x4), (5, .int x5)] → W p l e R s m args below meth c H locs 0 0 Q (F0 m 191 ls [])) : ∀ (n : Nat) (x7 : Int32) (f : mM), lp_X10_firstWay_164 N x1 x3 x4 x5 n x7 f = some fR → ∀ (H : Heap) (locs : List Loc) (ls : Array Slot), va_P D vwCl (wR ad cy f t) H → va_S (aR ad) s.heap H locs → lv_has ls 8 [(0, .ref (ad 0)), (1, .int x1), (3, .int x3), (4, .int x4), (5, .int x5), (7, .int x7)] → W p l e R s m args below meth c H locs 0 0 Q (F0 m 164 ls []) := by
  obtain ⟨hx, hb, hr, hml, hown, hts, hlocks, hK, hX0⟩ := id C0
  have lk47 := hts (.fieldLink RX10 47 "PlankNineModel" "best" "[I") (List.mem_of_getElem? (i := 5) rfl)
  have hiX10 : ∀ w ∈ u_ws RX10 TX10 34, w ∈ wsX10_firstWay := fun w h => List.mem_cons_of_mem _ (List.mem_append_right _ h)
  have lk41 := hts (.fieldLink RX10 41 "PlankNineModel" "row" "[I") (List.mem_of_getElem? (i := 2) rfl)
  intro n
  induction n with
  | zero =>
    intro x7 f hf
    exact no_none hf
  | succ n ih =>
    intro x7 f hf H locs ls hP hS hl
    have hf := (lp_X10_firstWay_164_s N x1 x3 x4 x5 n x7 f).symm.trans hf
    refine lv_iload hx hb dX10_firstWay_164 (lv_at hl 5 rfl) ?_
    refine lv_iload hx hb dX10_firstWay_166 (lv_at hl 4 rfl) ?_
    refine lv_icmp_gt (tgt := 191) hx hb dX10_firstWay_168 (by decide) (fun c168 => ?_) (fun c168 => ?_)
    · have hf := itT hf c168
      obtain rfl := Option.some.inj hf
      exact kx191 H locs ls hP hS (lv_sub hl [0, 1, 2, 3, 4] rfl)
    · have hf := itF hf c168
      refine lv_aload_n hx hb dX10_firstWay_171 rfl (lv_at hl 0 rfl) ?_
      refine va_get (D := D) (ci := 10) (v := .ref (ad 13)) (C := RX10) (T := TX10) (N := 34) hx hb hts hiX10 hown hK hP 0 rfl rfl 28 (by decide) lk47 (fun _ h9 => h9) rfl dX10_firstWay_172 ?_
      refine lv_iload hx hb dX10_firstWay_175 (lv_at hl 5 rfl) ?_
      refine lv_aload_n hx hb dX10_firstWay_177 rfl (lv_at hl 0 rfl) ?_
      refine va_get (D := D) (ci := 10) (v := .ref (ad 11)) (C := RX10) (T := TX10) (N := 34) hx hb hts hiX10 hown hK hP 0 rfl rfl 26 (by decide) lk41 (fun _ h9 => h9) rfl dX10_firstWay_178 ?_
      refine lv_iload hx hb dX10_firstWay_181 (lv_at hl 5 rfl) ?_
      obtain ⟨hin28, hf⟩ := gi_out hf
      refine va_iald hx hb hK hP 11 1 rfl rfl hin28 dX10_firstWay_183 ?_
      obtain ⟨hin29, hf⟩ := gi_out hf
      obtain ⟨f30, ef30, hf⟩ := sq_out hf
      refine va_iast hx hb hK hP (dR hj f t) hS 13 1 rfl rfl hin29 dX10_firstWay_184 (fun H locs hP _ hS => ?_)
      have hP := sR_13 ef30 hP
      obtain ⟨x7_31, ex7_31, hf⟩ := sq_out hf
      refine lv_iinc (v := x7_31) (lv' := [(7, .int x7_31), (0, .ref (ad 0)), (1, .int x1), (3, .int x3), (4, .int x4), (5, .int x5)]) hx hb dX10_firstWay_185 hl (k := 5) rfl (by rw [ex7_31]; rfl) (by decide) rfl (fun ls hl => ?_)
      refine lv_goto (tgt := 164) hx hb dX10_firstWay_188 (by decide) ?_
      exact ih x7_31 f30 hf H locs ls hP hS (lv_sub hl [1, 2, 3, 4, 5, 0] rfl)
def lp_X10_firstWay_21 (N : Nat) (x1 : Int32) (x3 : Int32) : Nat → Int32 → Int32 → mM → Option (Int32 × mM)
  | 0, _, _, _ => none
  | n + 1, x4, x5, f => if x5 < 0 then some (x4, f) else gi x5 7 (gi x5 6 (bi (q_X10_nextPlank N (f 12 (Int32.toNatClampNeg x5)) (f 11 (Int32.toNatClampNeg x5)) x5 f) (fun y7 => gi x5 6 (sq (st2 f 11 (Int32.toNatClampNeg x5) y7) (fun f10 => gi x5 6 (sq (f10 11 (Int32.toNatClampNeg x5)) (fun x6_12 => if x6_12 = (f10 0 16) then sq (x5 + (-1)) (fun x5_34 => lp_X10_firstWay_21 N x1 x3 n x4 x5_34 f10) else gi x6_12 50 (if (f10 8 (Int32.toNatClampNeg x6_12)) ≤ 0 then lp_X10_firstWay_21 N x1 x3 n x4 x5 f10 else gi x6_12 50 (bi (q_X10_takenBy x1 x5 f10) (fun y15 => if (f10 8 (Int32.toNatClampNeg x6_12)) < y15 then lp_X10_firstWay_21 N x1 x3 n x4 x5 f10 else gi x5 7 (bi (q_X10_across x6_12 (f10 12 (Int32.toNatClampNeg x5)) f10) (fun y18 => gi (x5 + 1) 7 (sq (st2 f10 12 (Int32.toNatClampNeg (x5 + 1)) y18) (fun f21 => gi (x5 + 1) 7 (if (f21 12 (Int32.toNatClampNeg (x5 + 1))) = x3 then sq (fun (_ : Unit) => sq (x5 + 1) (fun x4_27 => bi (lp_X10_firstWay_164 N x1 x3 x4_27 x5 N 0 f21) (fun f32 => lp_X10_firstWay_21 N x1 x3 n x4_27 x5 f32))) (fun k26 => if x4 = (-9) then k26 () else if x4 ≤ (x5 + 1) then lp_X10_firstWay_21 N x1 x3 n x4 x5 f21 else k26 ()) else sq (x5 + 1) (fun x5_23 => gi x5_23 6 (sq (st2 f21 11 (Int32.toNatClampNeg x5_23) (-1)) (fun f25 => lp_X10_firstWay_21 N x1 x3 n x4 x5_23 f25))))))))))))))))))
theorem lp_X10_firstWay_21_s (N : Nat) (x1 : Int32) (x3 : Int32) (n : Nat) (x4 : Int32) (x5 : Int32) (f : mM) : lp_X10_firstWay_21 N x1 x3 (n + 1) x4 x5 f = (if x5 < 0 then some (x4, f) else gi x5 7 (gi x5 6 (bi (q_X10_nextPlank N (f 12 (Int32.toNatClampNeg x5)) (f 11 (Int32.toNatClampNeg x5)) x5 f) (fun y7 => gi x5 6 (sq (st2 f 11 (Int32.toNatClampNeg x5) y7) (fun f10 => gi x5 6 (sq (f10 11 (Int32.toNatClampNeg x5)) (fun x6_12 => if x6_12 = (f10 0 16) then sq (x5 + (-1)) (fun x5_34 => lp_X10_firstWay_21 N x1 x3 n x4 x5_34 f10) else gi x6_12 50 (if (f10 8 (Int32.toNatClampNeg x6_12)) ≤ 0 then lp_X10_firstWay_21 N x1 x3 n x4 x5 f10 else gi x6_12 50 (bi (q_X10_takenBy x1 x5 f10) (fun y15 => if (f10 8 (Int32.toNatClampNeg x6_12)) < y15 then lp_X10_firstWay_21 N x1 x3 n x4 x5 f10 else gi x5 7 (bi (q_X10_across x6_12 (f10 12 (Int32.toNatClampNeg x5)) f10) (fun y18 => gi (x5 + 1) 7 (sq (st2 f10 12 (Int32.toNatClampNeg (x5 + 1)) y18) (fun f21 => gi (x5 + 1) 7 (if (f21 12 (Int32.toNatClampNeg (x5 + 1))) = x3 then sq (fun (_ : Unit) => sq (x5 + 1) (fun x4_27 => bi (lp_X10_firstWay_164 N x1 x3 x4_27 x5 N 0 f21) (fun f32 => lp_X10_firstWay_21 N x1 x3 n x4_27 x5 f32))) (fun k26 => if x4 = (-9) then k26 () else if x4 ≤ (x5 + 1) then lp_X10_firstWay_21 N x1 x3 n x4 x5 f21 else k26 ()) else sq (x5 + 1) (fun x5_23 => gi x5_23 6 (sq (st2 f21 11 (Int32.toNatClampNeg x5_23) (-1)) (fun f25 => lp_X10_firstWay_21 N x1 x3 n x4 x5_23 f25))))))))))))))))))) := rfl
set_option maxHeartbeats 4000000 in
set_option maxRecDepth 100000 in
theorem lp_X10_firstWay_21_w (C0 : cX p s m args meth c cX10_firstWay 8 (some .int) RX10 wsX10_firstWay D cy (xR)) (hj : jR ad) (hR : 2 ≤ R.frames ∧ 49 ≤ R.locals) (N : Nat) (x1 : Int32) (x3 : Int32) (t : Int64) (r4 : Int32) (fR : mM) (kx208 : ∀ (H : Heap) (locs : List Loc) (ls : Array Slot), va_P D vwCl (wR ad cy fR t) H → va_S (aR ad) s.heap H locs → lv_has ls 8 [(4, .int r4)] → W p l e R s m args below meth c H locs 0 0 Q (F0 m 208 ls [])) : ∀ (n : Nat) (x4 : Int32) (x5 : Int32) (f : mM), lp_X10_firstWay_21 N x1 x3 n x4 x5 f = some (r4, fR) → ∀ (H : Heap) (locs : List Loc) (ls : Array Slot), va_P D vwCl (wR ad cy f t) H → va_S (aR ad) s.heap H locs → lv_has ls 8 [(0, .ref (ad 0)), (1, .int x1), (3, .int x3), (4, .int x4), (5, .int x5)] → W p l e R s m args below meth c H locs 0 0 Q (F0 m 21 ls []) := by
  obtain ⟨hx, hb, hr, hml, hown, hts, hlocks, hK, hX0⟩ := id C0
  have lk41 := hts (.fieldLink RX10 41 "PlankNineModel" "row" "[I") (List.mem_of_getElem? (i := 2) rfl)
  have hiX10 : ∀ w ∈ u_ws RX10 TX10 34, w ∈ wsX10_firstWay := fun w h => List.mem_cons_of_mem _ (List.mem_append_right _ h)
  have lk44 := hts (.fieldLink RX10 44 "PlankNineModel" "at" "[I") (List.mem_of_getElem? (i := 1) rfl)
  have lk148 := hts (.fieldLink RX10 148 "PlankNineModel" "planks" "I") (List.mem_of_getElem? (i := 3) rfl)
  have lk31 := hts (.fieldLink RX10 31 "PlankNineModel" "s" "[I") (List.mem_of_getElem? (i := 4) rfl)
  intro n
  induction n with
  | zero =>
    intro x4 x5 f hf
    exact no_none hf
  | succ n ih =>
    intro x4 x5 f hf H locs ls hP hS hl
    have hf := (lp_X10_firstWay_21_s N x1 x3 n x4 x5 f).symm.trans hf
    refine lv_iload hx hb dX10_firstWay_21 (lv_at hl 4 rfl) ?_
    refine lv_if_lt (tgt := 208) hx hb dX10_firstWay_23 (by decide) (fun c23 => ?_) (fun c23 => ?_)
    · have hf := itT hf c23
      have hg_0 := Option.some.inj hf
      obtain ⟨rfl, rfl⟩ := Prod.mk.inj hg_0
      exact kx208 H locs ls hP hS (lv_sub hl [3] rfl)
    · have hf := itF hf c23
      refine lv_aload_n hx hb dX10_firstWay_26 rfl (lv_at hl 0 rfl) ?_
      refine va_get (D := D) (ci := 10) (v := .ref (ad 11)) (C := RX10) (T := TX10) (N := 34) hx hb hts hiX10 hown hK hP 0 rfl rfl 26 (by decide) lk41 (fun _ h9 => h9) rfl dX10_firstWay_27 ?_
      refine lv_iload hx hb dX10_firstWay_30 (lv_at hl 4 rfl) ?_
      refine lv_aload_n hx hb dX10_firstWay_32 rfl (lv_at hl 0 rfl) ?_
      refine lv_aload_n hx hb dX10_firstWay_33 rfl (lv_at hl 0 rfl) ?_
      refine va_get (D := D) (ci := 10) (v := .ref (ad 12)) (C := RX10) (T := TX10) (N := 34) hx hb hts hiX10 hown hK hP 0 rfl rfl 27 (by decide) lk44 (fun _ h9 => h9) rfl dX10_firstWay_34 ?_
      refine lv_iload hx hb dX10_firstWay_37 (lv_at hl 4 rfl) ?_
      obtain ⟨hin5, hf⟩ := gi_out hf
      refine va_iald hx hb hK hP 12 1 rfl rfl hin5 dX10_firstWay_39 ?_
      refine lv_aload_n hx hb dX10_firstWay_40 rfl (lv_at hl 0 rfl) ?_
      refine va_get (D := D) (ci := 10) (v := .ref (ad 11)) (C := RX10) (T := TX10) (N := 34) hx hb hts hiX10 hown hK hP 0 rfl rfl 26 (by decide) lk41 (fun _ h9 => h9) rfl dX10_firstWay_41 ?_
      refine lv_iload hx hb dX10_firstWay_44 (lv_at hl 4 rfl) ?_
      obtain ⟨hin6, hf⟩ := gi_out hf
      refine va_iald hx hb hK hP 11 1 rfl rfl hin6 dX10_firstWay_46 ?_
      refine lv_iload hx hb dX10_firstWay_47 (lv_at hl 4 rfl) ?_
      obtain ⟨y7, hq8, hf⟩ := bi_out hf
      refine cw_vi (As := [.int (f 12 (Int32.toNatClampNeg x5)), .int (f 11 (Int32.toNatClampNeg x5)), .int x5]) (rest := [.int x5, .ref (ad 11)]) ⟨hx, hb, hml, hown, hts⟩ xR_S hK hX0 hS hP (c_X10_nextPlank hj l N (f 12 (Int32.toNatClampNeg x5)) (f 11 (Int32.toNatClampNeg x5)) x5 f t y7 hq8) (cwV 3 hts gX10_firstWay_X10_nextPlank rfl rfl rfl (by decide +kernel) ⟨Nat.le_trans (Nat.le_of_ble_eq_true rfl) hR.1, Nat.le_trans (Nat.le_of_ble_eq_true rfl) hR.2⟩) (va_recv hK hP (ci := 10) (q0 := 0) rfl rfl) rfl hl.1 rfl (Nat.le_of_ble_eq_true rfl) ⟨Nat.zero_le _, Nat.zero_le _⟩ dX10_firstWay_49 (fun H locs hP hS => ?_)
      obtain ⟨hin9, hf⟩ := gi_out hf
      obtain ⟨f10, ef10, hf⟩ := sq_out hf
      refine va_iast hx hb hK hP (dR hj f t) hS 11 1 rfl rfl hin9 dX10_firstWay_52 (fun H locs hP _ hS => ?_)
      have hP := sR_11 ef10 hP
      refine lv_aload_n hx hb dX10_firstWay_53 rfl (lv_at hl 0 rfl) ?_
      refine va_get (D := D) (ci := 10) (v := .ref (ad 11)) (C := RX10) (T := TX10) (N := 34) hx hb hts hiX10 hown hK hP 0 rfl rfl 26 (by decide) lk41 (fun _ h9 => h9) rfl dX10_firstWay_54 ?_
      refine lv_iload hx hb dX10_firstWay_57 (lv_at hl 4 rfl) ?_
      obtain ⟨hin11, hf⟩ := gi_out hf
      refine va_iald hx hb hK hP 11 1 rfl rfl hin11 dX10_firstWay_59 ?_
      obtain ⟨x6_12, ex6_12, hf⟩ := sq_out hf
      refine lv_nmi ex6_12 ?_
      refine lv_istore (lv' := [(6, .int x6_12), (0, .ref (ad 0)), (1, .int x1), (3, .int x3), (4, .int x4), (5, .int x5)]) hx hb dX10_firstWay_60 hl (by decide) rfl (fun ls hl => ?_)
      refine lv_iload hx hb dX10_firstWay_62 (lv_at hl 0 rfl) ?_
      refine lv_aload_n hx hb dX10_firstWay_64 rfl (lv_at hl 1 rfl) ?_
      refine va_get (D := D) (ci := 10) (v := .int (f10 0 16)) (C := RX10) (T := TX10) (N := 34) hx hb hts hiX10 hown hK hP 0 rfl rfl 16 (by decide) lk148 (fun _ h9 => h9) rfl dX10_firstWay_65 ?_
      refine lv_icmp_ne (tgt := 77) hx hb dX10_firstWay_68 (by decide) (fun c68 => ?_) (fun c68 => ?_)
      · have hf := itF hf c68
        refine lv_aload_n hx hb dX10_firstWay_77 rfl (lv_at hl 1 rfl) ?_
        refine va_get (D := D) (ci := 10) (v := .ref (ad 8)) (C := RX10) (T := TX10) (N := 34) hx hb hts hiX10 hown hK hP 0 rfl rfl 23 (by decide) lk31 (fun _ h9 => h9) rfl dX10_firstWay_78 ?_
        refine lv_iload hx hb dX10_firstWay_81 (lv_at hl 0 rfl) ?_
        obtain ⟨hin13, hf⟩ := gi_out hf
        refine va_iald hx hb hK hP 8 1 rfl rfl hin13 dX10_firstWay_83 ?_
        refine lv_if_le (tgt := 205) hx hb dX10_firstWay_84 (by decide) (fun c84 => ?_) (fun c84 => ?_)
        · have hf := itT hf c84
          refine lv_goto (tgt := 21) hx hb dX10_firstWay_205 (by decide) ?_
          exact ih x4 x5 f10 hf H locs ls hP hS (lv_sub hl [1, 2, 3, 4, 5] rfl)
        · have hf := itF hf c84
          refine lv_aload_n hx hb dX10_firstWay_87 rfl (lv_at hl 1 rfl) ?_
          refine va_get (D := D) (ci := 10) (v := .ref (ad 8)) (C := RX10) (T := TX10) (N := 34) hx hb hts hiX10 hown hK hP 0 rfl rfl 23 (by decide) lk31 (fun _ h9 => h9) rfl dX10_firstWay_88 ?_
          refine lv_iload hx hb dX10_firstWay_91 (lv_at hl 0 rfl) ?_
          obtain ⟨hin14, hf⟩ := gi_out hf
          refine va_iald hx hb hK hP 8 1 rfl rfl hin14 dX10_firstWay_93 ?_
          refine lv_aload_n hx hb dX10_firstWay_94 rfl (lv_at hl 1 rfl) ?_
          refine lv_iload_n hx hb dX10_firstWay_95 rfl (lv_at hl 2 rfl) ?_
          refine lv_iload hx hb dX10_firstWay_96 (lv_at hl 5 rfl) ?_
          obtain ⟨y15, hq16, hf⟩ := bi_out hf
          refine cw_vi (As := [.int x1, .int x5]) (rest := [.int (f10 8 (Int32.toNatClampNeg x6_12))]) ⟨hx, hb, hml, hown, hts⟩ xR_S hK hX0 hS hP (c_X10_takenBy hj l x1 x5 f10 t y15 hq16) (cwV 2 hts gX10_firstWay_X10_takenBy rfl rfl rfl (by decide +kernel) ⟨Nat.le_trans (Nat.le_of_ble_eq_true rfl) hR.1, Nat.le_trans (Nat.le_of_ble_eq_true rfl) hR.2⟩) (va_recv hK hP (ci := 10) (q0 := 0) rfl rfl) rfl hl.1 rfl (Nat.le_of_ble_eq_true rfl) ⟨Nat.zero_le _, Nat.zero_le _⟩ dX10_firstWay_98 (fun H locs hP hS => ?_)
          refine lv_icmp_lt (tgt := 205) hx hb dX10_firstWay_101 (by decide) (fun c101 => ?_) (fun c101 => ?_)
          · have hf := itT hf c101
            refine lv_goto (tgt := 21) hx hb dX10_firstWay_205 (by decide) ?_
            exact ih x4 x5 f10 hf H locs ls hP hS (lv_sub hl [1, 2, 3, 4, 5] rfl)
          · have hf := itF hf c101
            refine lv_aload_n hx hb dX10_firstWay_104 rfl (lv_at hl 1 rfl) ?_
            refine va_get (D := D) (ci := 10) (v := .ref (ad 12)) (C := RX10) (T := TX10) (N := 34) hx hb hts hiX10 hown hK hP 0 rfl rfl 27 (by decide) lk44 (fun _ h9 => h9) rfl dX10_firstWay_105 ?_
            refine lv_iload hx hb dX10_firstWay_108 (lv_at hl 5 rfl) ?_
            refine lv_iconst (v := 1) hx hb dX10_firstWay_110 (by decide) ?_
            refine lv_iadd hx hb dX10_firstWay_111 ?_
            refine lv_aload_n hx hb dX10_firstWay_112 rfl (lv_at hl 1 rfl) ?_
            refine lv_iload hx hb dX10_firstWay_113 (lv_at hl 0 rfl) ?_
            refine lv_aload_n hx hb dX10_firstWay_115 rfl (lv_at hl 1 rfl) ?_
            refine va_get (D := D) (ci := 10) (v := .ref (ad 12)) (C := RX10) (T := TX10) (N := 34) hx hb hts hiX10 hown hK hP 0 rfl rfl 27 (by decide) lk44 (fun _ h9 => h9) rfl dX10_firstWay_116 ?_
            refine lv_iload hx hb dX10_firstWay_119 (lv_at hl 5 rfl) ?_
            obtain ⟨hin17, hf⟩ := gi_out hf
            refine va_iald hx hb hK hP 12 1 rfl rfl hin17 dX10_firstWay_121 ?_
            obtain ⟨y18, hq19, hf⟩ := bi_out hf
            refine cw_vi (As := [.int x6_12, .int (f10 12 (Int32.toNatClampNeg x5))]) (rest := [.int (x5 + 1), .ref (ad 12)]) ⟨hx, hb, hml, hown, hts⟩ xR_S hK hX0 hS hP (c_X10_across hj l x6_12 (f10 12 (Int32.toNatClampNeg x5)) f10 t y18 hq19) (cwV 2 hts gX10_firstWay_X10_across rfl rfl rfl (by decide +kernel) ⟨Nat.le_trans (Nat.le_of_ble_eq_true rfl) hR.1, Nat.le_trans (Nat.le_of_ble_eq_true rfl) hR.2⟩) (va_recv hK hP (ci := 10) (q0 := 0) rfl rfl) rfl hl.1 rfl (Nat.le_of_ble_eq_true rfl) ⟨Nat.zero_le _, Nat.zero_le _⟩ dX10_firstWay_122 (fun H locs hP hS => ?_)
            obtain ⟨hin20, hf⟩ := gi_out hf
            obtain ⟨f21, ef21, hf⟩ := sq_out hf
            refine va_iast hx hb hK hP (dR hj f10 t) hS 12 1 rfl rfl hin20 dX10_firstWay_125 (fun H locs hP _ hS => ?_)
            have hP := sR_12 ef21 hP
            refine lv_aload_n hx hb dX10_firstWay_126 rfl (lv_at hl 1 rfl) ?_
            refine va_get (D := D) (ci := 10) (v := .ref (ad 12)) (C := RX10) (T := TX10) (N := 34) hx hb hts hiX10 hown hK hP 0 rfl rfl 27 (by decide) lk44 (fun _ h9 => h9) rfl dX10_firstWay_127 ?_
            refine lv_iload hx hb dX10_firstWay_130 (lv_at hl 5 rfl) ?_
            refine lv_iconst (v := 1) hx hb dX10_firstWay_132 (by decide) ?_
            refine lv_iadd hx hb dX10_firstWay_133 ?_
            obtain ⟨hin22, hf⟩ := gi_out hf
            refine va_iald hx hb hK hP 12 1 rfl rfl hin22 dX10_firstWay_134 ?_
            refine lv_iload_n hx hb dX10_firstWay_135 rfl (lv_at hl 3 rfl) ?_
            refine lv_icmp_ne (tgt := 194) hx hb dX10_firstWay_136 (by decide) (fun c136 => ?_) (fun c136 => ?_)
            · have hf := itF hf c136
              obtain ⟨x5_23, ex5_23, hf⟩ := sq_out hf
              refine lv_iinc (v := x5_23) (lv' := [(5, .int x5_23), (6, .int x6_12), (0, .ref (ad 0)), (1, .int x1), (3, .int x3), (4, .int x4)]) hx hb dX10_firstWay_194 hl (k := 5) rfl (by rw [ex5_23]; rfl) (by decide) rfl (fun ls hl => ?_)
              refine lv_aload_n hx hb dX10_firstWay_197 rfl (lv_at hl 2 rfl) ?_
              refine va_get (D := D) (ci := 10) (v := .ref (ad 11)) (C := RX10) (T := TX10) (N := 34) hx hb hts hiX10 hown hK hP 0 rfl rfl 26 (by decide) lk41 (fun _ h9 => h9) rfl dX10_firstWay_198 ?_
              refine lv_iload hx hb dX10_firstWay_201 (lv_at hl 0 rfl) ?_
              refine lv_iconst (v := (-1)) hx hb dX10_firstWay_203 (by decide) ?_
              obtain ⟨hin24, hf⟩ := gi_out hf
              obtain ⟨f25, ef25, hf⟩ := sq_out hf
              refine va_iast hx hb hK hP (dR hj f21 t) hS 11 1 rfl rfl hin24 dX10_firstWay_204 (fun H locs hP _ hS => ?_)
              have hP := sR_11 ef25 hP
              refine lv_goto (tgt := 21) hx hb dX10_firstWay_205 (by decide) ?_
              exact ih x4 x5_23 f25 hf H locs ls hP hS (lv_sub hl [2, 3, 4, 5, 0] rfl)
            · have hf := itT hf c136
              refine lv_iload hx hb dX10_firstWay_139 (lv_at hl 4 rfl) ?_
              refine lv_bipush (v := (-9)) hx hb dX10_firstWay_141 (by decide) ?_
              obtain ⟨k26, ek26, hf⟩ := sq_out hf
              have hk26 : k26 () = some (r4, fR) → ∀ (H : Heap) (locs : List Loc) (ls : Array Slot), va_P D vwCl (wR ad cy f21 t) H → va_S (aR ad) s.heap H locs → lv_has ls 8 [(0, .ref (ad 0)), (1, .int x1), (3, .int x3), (5, .int x5)] → W p l e R s m args below meth c H locs 0 0 Q (F0 m 155 ls []) := by
                intro hf H locs ls hP hS hl
                have hf := sk1 ek26 () hf
                refine lv_iload hx hb dX10_firstWay_155 (lv_at hl 3 rfl) ?_
                refine lv_iconst (v := 1) hx hb dX10_firstWay_157 (by decide) ?_
                refine lv_iadd hx hb dX10_firstWay_158 ?_
                obtain ⟨x4_27, ex4_27, hf⟩ := sq_out hf
                refine lv_nmi ex4_27 ?_
                refine lv_istore (lv' := [(4, .int x4_27), (0, .ref (ad 0)), (1, .int x1), (3, .int x3), (5, .int x5)]) hx hb dX10_firstWay_159 hl (by decide) rfl (fun ls hl => ?_)
                refine lv_iconst (v := 0) hx hb dX10_firstWay_161 (by decide) ?_
                refine lv_istore (lv' := [(7, .int 0), (4, .int x4_27), (0, .ref (ad 0)), (1, .int x1), (3, .int x3), (5, .int x5)]) hx hb dX10_firstWay_162 hl (by decide) rfl (fun ls hl => ?_)
                obtain ⟨f32, hlp33, hf⟩ := bi_out hf
                refine lp_X10_firstWay_164_w C0 hj hR N x1 x3 x4_27 x5 t f32 ?_ N 0 f21 hlp33 H locs ls hP hS (lv_sub hl [2, 3, 4, 1, 5, 0] rfl)
                intro H locs ls hP hS hl
                refine lv_goto (tgt := 205) hx hb dX10_firstWay_191 (by decide) ?_
                refine lv_goto (tgt := 21) hx hb dX10_firstWay_205 (by decide) ?_
                exact ih x4_27 x5 f32 hf H locs ls hP hS (lv_sub hl [0, 1, 2, 3, 4] rfl)
              refine lv_icmp_eq (tgt := 155) hx hb dX10_firstWay_143 (by decide) (fun c143 => ?_) (fun c143 => ?_)
              · have hf := itT hf c143
                exact hk26 hf H locs ls hP hS (lv_sub hl [1, 2, 3, 5] rfl)
              · have hf := itF hf c143
                refine lv_iload hx hb dX10_firstWay_146 (lv_at hl 5 rfl) ?_
                refine lv_iconst (v := 1) hx hb dX10_firstWay_148 (by decide) ?_
                refine lv_iadd hx hb dX10_firstWay_149 ?_
                refine lv_iload hx hb dX10_firstWay_150 (lv_at hl 4 rfl) ?_
                refine lv_icmp_ge (tgt := 205) hx hb dX10_firstWay_152 (by decide) (fun c152 => ?_) (fun c152 => ?_)
                · have hf := itT hf c152
                  refine lv_goto (tgt := 21) hx hb dX10_firstWay_205 (by decide) ?_
                  exact ih x4 x5 f21 hf H locs ls hP hS (lv_sub hl [1, 2, 3, 4, 5] rfl)
                · have hf := itF hf c152
                  exact hk26 hf H locs ls hP hS (lv_sub hl [1, 2, 3, 5] rfl)
      · have hf := itT hf c68
        obtain ⟨x5_34, ex5_34, hf⟩ := sq_out hf
        refine lv_iinc (v := x5_34) (lv' := [(5, .int x5_34), (6, .int x6_12), (0, .ref (ad 0)), (1, .int x1), (3, .int x3), (4, .int x4)]) hx hb dX10_firstWay_71 hl (k := 5) rfl (by rw [ex5_34]; rfl) (by decide) rfl (fun ls hl => ?_)
        refine lv_goto (tgt := 205) hx hb dX10_firstWay_74 (by decide) ?_
        refine lv_goto (tgt := 21) hx hb dX10_firstWay_205 (by decide) ?_
        exact ih x4 x5_34 f10 hf H locs ls hP hS (lv_sub hl [2, 3, 4, 5, 0] rfl)
def q_X10_firstWay (N : Nat) (x1 : Int32) (x2 : Int32) (x3 : Int32) (f : mM) : Option (Int32 × mM) := gi 0 7 (sq (st2 f 12 (Int32.toNatClampNeg 0) x2) (fun f2 => gi 0 6 (sq (st2 f2 11 (Int32.toNatClampNeg 0) (-1)) (fun f4 => bi2 (lp_X10_firstWay_21 N x1 x3 N (-9) 0 f4) (fun y35 f36 => some (y35, f36))))))
set_option maxHeartbeats 4000000 in
set_option maxRecDepth 100000 in
theorem b_X10_firstWay (C0 : cX p s m args meth c cX10_firstWay 8 (some .int) RX10 wsX10_firstWay D cy (xR)) (hj : jR ad) (hR : 2 ≤ R.frames ∧ 49 ≤ R.locals) (N : Nat) (x1 : Int32) (x2 : Int32) (x3 : Int32) (f : mM) (t : Int64) (r : Int32) (fR : mM) (hf : q_X10_firstWay N x1 x2 x3 f = some (r, fR)) (kr : ∀ (H : Heap) (locs : List Loc) (ls : Array Slot) (pc : Nat), decode cX10_firstWay pc = .ok (.ireturn, 1) → va_P D vwCl (wR ad cy fR t) H → va_S (aR ad) s.heap H locs → W p l e R s m args below meth c H locs 0 0 Q (F0 m pc ls [.int r])) (H : Heap) (locs : List Loc) (ls : Array Slot) (hP : va_P D vwCl (wR ad cy f t) H) (hS : va_S (aR ad) s.heap H locs) (hl : lv_has ls 8 [(0, .ref (ad 0)), (1, .int x1), (2, .int x2), (3, .int x3)]) : W p l e R s m args below meth c H locs 0 0 Q (F0 m 0 ls []) := by
  obtain ⟨hx, hb, hr, hml, hown, hts, hlocks, hK, hX0⟩ := id C0
  have lk44 := hts (.fieldLink RX10 44 "PlankNineModel" "at" "[I") (List.mem_of_getElem? (i := 1) rfl)
  have hiX10 : ∀ w ∈ u_ws RX10 TX10 34, w ∈ wsX10_firstWay := fun w h => List.mem_cons_of_mem _ (List.mem_append_right _ h)
  have lk41 := hts (.fieldLink RX10 41 "PlankNineModel" "row" "[I") (List.mem_of_getElem? (i := 2) rfl)
  unfold q_X10_firstWay at hf
  refine lv_bipush (v := (-9)) hx hb dX10_firstWay_0 (by decide) ?_
  refine lv_istore (lv' := [(4, .int (-9)), (0, .ref (ad 0)), (1, .int x1), (2, .int x2), (3, .int x3)]) hx hb dX10_firstWay_2 hl (by decide) rfl (fun ls hl => ?_)
  refine lv_iconst (v := 0) hx hb dX10_firstWay_4 (by decide) ?_
  refine lv_istore (lv' := [(5, .int 0), (4, .int (-9)), (0, .ref (ad 0)), (1, .int x1), (2, .int x2), (3, .int x3)]) hx hb dX10_firstWay_5 hl (by decide) rfl (fun ls hl => ?_)
  refine lv_aload_n hx hb dX10_firstWay_7 rfl (lv_at hl 2 rfl) ?_
  refine va_get (D := D) (ci := 10) (v := .ref (ad 12)) (C := RX10) (T := TX10) (N := 34) hx hb hts hiX10 hown hK hP 0 rfl rfl 27 (by decide) lk44 (fun _ h9 => h9) rfl dX10_firstWay_8 ?_
  refine lv_iconst (v := 0) hx hb dX10_firstWay_11 (by decide) ?_
  refine lv_iload_n hx hb dX10_firstWay_12 rfl (lv_at hl 4 rfl) ?_
  obtain ⟨hin1, hf⟩ := gi_out hf
  obtain ⟨f2, ef2, hf⟩ := sq_out hf
  refine va_iast hx hb hK hP (dR hj f t) hS 12 1 rfl rfl hin1 dX10_firstWay_13 (fun H locs hP _ hS => ?_)
  have hP := sR_12 ef2 hP
  refine lv_aload_n hx hb dX10_firstWay_14 rfl (lv_at hl 2 rfl) ?_
  refine va_get (D := D) (ci := 10) (v := .ref (ad 11)) (C := RX10) (T := TX10) (N := 34) hx hb hts hiX10 hown hK hP 0 rfl rfl 26 (by decide) lk41 (fun _ h9 => h9) rfl dX10_firstWay_15 ?_
  refine lv_iconst (v := 0) hx hb dX10_firstWay_18 (by decide) ?_
  refine lv_iconst (v := (-1)) hx hb dX10_firstWay_19 (by decide) ?_
  obtain ⟨hin3, hf⟩ := gi_out hf
  obtain ⟨f4, ef4, hf⟩ := sq_out hf
  refine va_iast hx hb hK hP (dR hj f2 t) hS 11 1 rfl rfl hin3 dX10_firstWay_20 (fun H locs hP _ hS => ?_)
  have hP := sR_11 ef4 hP
  obtain ⟨y35, f36, hlp37, hf⟩ := bi2_out hf
  refine lp_X10_firstWay_21_w C0 hj hR N x1 x3 t y35 f36 ?_ N (-9) 0 f4 hlp37 H locs ls hP hS (lv_sub hl [2, 3, 5, 1, 0] rfl)
  intro H locs ls hP hS hl
  refine lv_iload hx hb dX10_firstWay_208 (lv_at hl 0 rfl) ?_
  obtain ⟨rfl, rfl⟩ := Prod.mk.inj (Option.some.inj hf)
  exact kr H locs ls 210 dX10_firstWay_210 hP hS
set_option maxHeartbeats 4000000 in
set_option maxRecDepth 100000 in
theorem c_X10_firstWay (hj : jR ad) (l : Launch) (N : Nat) (x1 : Int32) (x2 : Int32) (x3 : Int32) (f : mM) (t : Int64) (r : Int32) (fR : mM) (hf : q_X10_firstWay N x1 x2 x3 f = some (r, fR)) : Met l yX10_firstWay wsX10_firstWay ({ frames := 2, cells := 0, slots := 0, locals := 49 }) (va_Pc ([.ref (ad 0), .int x1, .int x2, .int x3]) (pre D cy (wR ad cy) (xR) f t)) (va_Qi (fun (r2 : Int32) (u : mM × Int64) => r2 = r ∧ u = (fR, t)) (atW D (wR ad cy)) (aR ad)) 0 0 (aR ad) := by
  refine Met.ofW (cc := cX10_firstWay) (maxL := 8) (ret := (some .int)) (by decide) rfl ?_
  intro p e s m args below meth c s₁ B hml hv
  obtain ⟨rfl, hP, hK, hX0⟩ := hv
  have hl := lv_entry ([.ref (ad 0), .int x1, .int x2, .int x3]) (n := 8) (Nat.le_of_ble_eq_true rfl)
  rw [lg_entry_eq]
  generalize (lg_sl ([.ref (ad 0), .int x1, .int x2, .int x3]) ++ List.replicate (8 - (lg_sl ([.ref (ad 0), .int x1, .int x2, .int x3])).length) Slot.unset).toArray = ls at hl ⊢
  have hlocks := B.notSynchronized
  exact b_X10_firstWay ⟨B.exec, B.bytes, B.returns, hml, findClass_of_methodNamed B.named, atoms_spec (ws := wsX10_firstWay) B.pre, hlocks, hK, hX0⟩ hj ⟨Nat.le_refl _, Nat.le_refl _⟩ N x1 x2 x3 f t r fR hf (fun H locs ls pc hd hP hS => W.iret B.exec B.bytes B.returns (fun t2 ht hW => ⟨⟨r, (fR, t), rfl, ⟨rfl, rfl⟩, by show va_P D vwCl _ t2.heap; rw [ht]; exact hP⟩, hS.F ht⟩) hS.2.2 hd) s.heap [] ls hP va_S.rf hl
def q_X10_way (N : Nat) (x1 : Int32) (x2 : Int32) (x3 : Int32) (x4 : Int32) (f : mM) : Option (Int32 × mM) := sq (st2 f 0 0 0) (fun f1 => bi (q_X10_isPerson x1 f1) (fun y2 => if y2 = 0 then some ((-1), f1) else bi (q_X10_arePlaces x2 x3 f1) (fun y4 => if y4 = 0 then some ((-1), f1) else if (-1) ≤ x4 then bi2 (q_X10_firstWay N x1 x2 x3 f1) (fun y6 f7 => if y6 = (-9) then some (y6, f7) else if 0 ≤ x4 then if y6 ≤ x4 then some ((-5), f7) else gi x4 6 (some ((f7 13 (Int32.toNatClampNeg x4)), f7)) else some (y6, f7)) else some ((-1), f1))))
set_option maxHeartbeats 4000000 in
set_option maxRecDepth 100000 in
theorem b_X10_way (C0 : cX p s m args meth c cX10_way 6 (some .int) RX10 wsX10_way D cy (xR)) (hj : jR ad) (hR : 3 ≤ R.frames ∧ 76 ≤ R.locals) (N : Nat) (x1 : Int32) (x2 : Int32) (x3 : Int32) (x4 : Int32) (f : mM) (t : Int64) (r : Int32) (fR : mM) (hf : q_X10_way N x1 x2 x3 x4 f = some (r, fR)) (kr : ∀ (H : Heap) (locs : List Loc) (ls : Array Slot) (pc : Nat), decode cX10_way pc = .ok (.ireturn, 1) → va_P D vwCl (wR ad cy fR t) H → va_S (aR ad) s.heap H locs → W p l e R s m args below meth c H locs 0 0 Q (F0 m pc ls [.int r])) (H : Heap) (locs : List Loc) (ls : Array Slot) (hP : va_P D vwCl (wR ad cy f t) H) (hS : va_S (aR ad) s.heap H locs) (hl : lv_has ls 6 [(0, .ref (ad 0)), (1, .int x1), (2, .int x2), (3, .int x3), (4, .int x4)]) : W p l e R s m args below meth c H locs 0 0 Q (F0 m 0 ls []) := by
  obtain ⟨hx, hb, hr, hml, hown, hts, hlocks, hK, hX0⟩ := id C0
  have lk69 := hts (.fieldLink RX10 69 "PlankNineModel" "thrown" "I") (List.mem_of_getElem? (i := 1) rfl)
  have hiX10 : ∀ w ∈ u_ws RX10 TX10 34, w ∈ wsX10_way := fun w h => List.mem_cons_of_mem _ (List.mem_append_right _ h)
  have lk47 := hts (.fieldLink RX10 47 "PlankNineModel" "best" "[I") (List.mem_of_getElem? (i := 2) rfl)
  unfold q_X10_way at hf
  refine lv_aload_n hx hb dX10_way_0 rfl (lv_at hl 0 rfl) ?_
  refine lv_iconst (v := 0) hx hb dX10_way_1 (by decide) ?_
  obtain ⟨f1, ef1, hf⟩ := sq_out hf
  refine va_put (D := D) (ci := 10) (v := .int 0) (ty := .int) (C := RX10) (T := TX10) (N := 34) hx hb hts hiX10 tyX10 tyX10_ok nmX10 hown hK hP (dR hj f t) hS 0 rfl rfl 0 (by decide) lk69 (fun _ h9 => h9) rfl (by decide +kernel) rfl rfl (Nat.le_of_ble_eq_true rfl) dX10_way_2 (fun H locs hP _ hS => ?_)
  have hP := sR_0_0 ef1 hP
  refine lv_aload_n hx hb dX10_way_5 rfl (lv_at hl 0 rfl) ?_
  refine lv_iload_n hx hb dX10_way_6 rfl (lv_at hl 1 rfl) ?_
  obtain ⟨y2, hq3, hf⟩ := bi_out hf
  refine cw_vi (As := [.int x1]) (rest := []) ⟨hx, hb, hml, hown, hts⟩ xR_S hK hX0 hS hP (c_X10_isPerson hj l x1 f1 t y2 hq3) (cwV 1 hts gX10_way_X10_isPerson rfl rfl rfl (by decide +kernel) ⟨Nat.le_trans (Nat.le_of_ble_eq_true rfl) hR.1, Nat.le_trans (Nat.le_of_ble_eq_true rfl) hR.2⟩) (va_recv hK hP (ci := 10) (q0 := 0) rfl rfl) rfl hl.1 rfl (Nat.le_of_ble_eq_true rfl) ⟨Nat.zero_le _, Nat.zero_le _⟩ dX10_way_7 (fun H locs hP hS => ?_)
  refine lv_if_eq (tgt := 28) hx hb dX10_way_10 (by decide) (fun c10 => ?_) (fun c10 => ?_)
  · have hf := itT hf c10
    refine lv_iconst (v := (-1)) hx hb dX10_way_28 (by decide) ?_
    obtain ⟨rfl, rfl⟩ := Prod.mk.inj (Option.some.inj hf)
    exact kr H locs ls 29 dX10_way_29 hP hS
  · have hf := itF hf c10
    refine lv_aload_n hx hb dX10_way_13 rfl (lv_at hl 0 rfl) ?_
    refine lv_iload_n hx hb dX10_way_14 rfl (lv_at hl 2 rfl) ?_
    refine lv_iload_n hx hb dX10_way_15 rfl (lv_at hl 3 rfl) ?_
    obtain ⟨y4, hq5, hf⟩ := bi_out hf
    refine cw_vi (As := [.int x2, .int x3]) (rest := []) ⟨hx, hb, hml, hown, hts⟩ xR_S hK hX0 hS hP (c_X10_arePlaces hj l x2 x3 f1 t y4 hq5) (cwV 2 hts gX10_way_X10_arePlaces rfl rfl rfl (by decide +kernel) ⟨Nat.le_trans (Nat.le_of_ble_eq_true rfl) hR.1, Nat.le_trans (Nat.le_of_ble_eq_true rfl) hR.2⟩) (va_recv hK hP (ci := 10) (q0 := 0) rfl rfl) rfl hl.1 rfl (Nat.le_of_ble_eq_true rfl) ⟨Nat.zero_le _, Nat.zero_le _⟩ dX10_way_16 (fun H locs hP hS => ?_)
    refine lv_if_eq (tgt := 28) hx hb dX10_way_19 (by decide) (fun c19 => ?_) (fun c19 => ?_)
    · have hf := itT hf c19
      refine lv_iconst (v := (-1)) hx hb dX10_way_28 (by decide) ?_
      obtain ⟨rfl, rfl⟩ := Prod.mk.inj (Option.some.inj hf)
      exact kr H locs ls 29 dX10_way_29 hP hS
    · have hf := itF hf c19
      refine lv_iload hx hb dX10_way_22 (lv_at hl 4 rfl) ?_
      refine lv_iconst (v := (-1)) hx hb dX10_way_24 (by decide) ?_
      refine lv_icmp_ge (tgt := 30) hx hb dX10_way_25 (by decide) (fun c25 => ?_) (fun c25 => ?_)
      · have hf := itT hf c25
        refine lv_aload_n hx hb dX10_way_30 rfl (lv_at hl 0 rfl) ?_
        refine lv_iload_n hx hb dX10_way_31 rfl (lv_at hl 1 rfl) ?_
        refine lv_iload_n hx hb dX10_way_32 rfl (lv_at hl 2 rfl) ?_
        refine lv_iload_n hx hb dX10_way_33 rfl (lv_at hl 3 rfl) ?_
        obtain ⟨y6, f7, hq8, hf⟩ := bi2_out hf
        refine cw_vi (As := [.int x1, .int x2, .int x3]) (rest := []) ⟨hx, hb, hml, hown, hts⟩ xR_S hK hX0 hS hP (c_X10_firstWay hj l N x1 x2 x3 f1 t y6 f7 hq8) (cwV 3 hts gX10_way_X10_firstWay rfl rfl rfl (by decide +kernel) ⟨Nat.le_trans (Nat.le_of_ble_eq_true rfl) hR.1, Nat.le_trans (Nat.le_of_ble_eq_true rfl) hR.2⟩) (va_recv hK hP (ci := 10) (q0 := 0) rfl rfl) rfl hl.1 rfl (Nat.le_of_ble_eq_true rfl) ⟨Nat.zero_le _, Nat.zero_le _⟩ dX10_way_34 (fun H locs hP hS => ?_)
        refine lv_istore (lv' := [(5, .int y6), (0, .ref (ad 0)), (1, .int x1), (2, .int x2), (3, .int x3), (4, .int x4)]) hx hb dX10_way_37 hl (by decide) rfl (fun ls hl => ?_)
        refine lv_iload hx hb dX10_way_39 (lv_at hl 0 rfl) ?_
        refine lv_bipush (v := (-9)) hx hb dX10_way_41 (by decide) ?_
        refine lv_icmp_eq (tgt := 51) hx hb dX10_way_43 (by decide) (fun c43 => ?_) (fun c43 => ?_)
        · have hf := itT hf c43
          refine lv_iload hx hb dX10_way_51 (lv_at hl 0 rfl) ?_
          refine lv_goto (tgt := 75) hx hb dX10_way_53 (by decide) ?_
          obtain ⟨rfl, rfl⟩ := Prod.mk.inj (Option.some.inj hf)
          exact kr H locs ls 75 dX10_way_75 hP hS
        · have hf := itF hf c43
          refine lv_iload hx hb dX10_way_46 (lv_at hl 5 rfl) ?_
          refine lv_if_ge (tgt := 56) hx hb dX10_way_48 (by decide) (fun c48 => ?_) (fun c48 => ?_)
          · have hf := itT hf c48
            refine lv_iload hx hb dX10_way_56 (lv_at hl 5 rfl) ?_
            refine lv_iload hx hb dX10_way_58 (lv_at hl 0 rfl) ?_
            refine lv_icmp_ge (tgt := 73) hx hb dX10_way_60 (by decide) (fun c60 => ?_) (fun c60 => ?_)
            · have hf := itT hf c60
              refine lv_bipush (v := (-5)) hx hb dX10_way_73 (by decide) ?_
              obtain ⟨rfl, rfl⟩ := Prod.mk.inj (Option.some.inj hf)
              exact kr H locs ls 75 dX10_way_75 hP hS
            · have hf := itF hf c60
              refine lv_aload_n hx hb dX10_way_63 rfl (lv_at hl 1 rfl) ?_
              refine va_get (D := D) (ci := 10) (v := .ref (ad 13)) (C := RX10) (T := TX10) (N := 34) hx hb hts hiX10 hown hK hP 0 rfl rfl 28 (by decide) lk47 (fun _ h9 => h9) rfl dX10_way_64 ?_
              refine lv_iload hx hb dX10_way_67 (lv_at hl 5 rfl) ?_
              obtain ⟨hin9, hf⟩ := gi_out hf
              refine va_iald hx hb hK hP 13 1 rfl rfl hin9 dX10_way_69 ?_
              refine lv_goto (tgt := 75) hx hb dX10_way_70 (by decide) ?_
              obtain ⟨rfl, rfl⟩ := Prod.mk.inj (Option.some.inj hf)
              exact kr H locs ls 75 dX10_way_75 hP hS
          · have hf := itF hf c48
            refine lv_iload hx hb dX10_way_51 (lv_at hl 0 rfl) ?_
            refine lv_goto (tgt := 75) hx hb dX10_way_53 (by decide) ?_
            obtain ⟨rfl, rfl⟩ := Prod.mk.inj (Option.some.inj hf)
            exact kr H locs ls 75 dX10_way_75 hP hS
      · have hf := itF hf c25
        refine lv_iconst (v := (-1)) hx hb dX10_way_28 (by decide) ?_
        obtain ⟨rfl, rfl⟩ := Prod.mk.inj (Option.some.inj hf)
        exact kr H locs ls 29 dX10_way_29 hP hS
set_option maxHeartbeats 4000000 in
set_option maxRecDepth 100000 in
theorem c_X10_way (hj : jR ad) (l : Launch) (N : Nat) (x1 : Int32) (x2 : Int32) (x3 : Int32) (x4 : Int32) (f : mM) (t : Int64) (r : Int32) (fR : mM) (hf : q_X10_way N x1 x2 x3 x4 f = some (r, fR)) : Met l yX10_way wsX10_way ({ frames := 3, cells := 0, slots := 0, locals := 76 }) (va_Pc ([.ref (ad 0), .int x1, .int x2, .int x3, .int x4]) (pre D cy (wR ad cy) (xR) f t)) (va_Qi (fun (r2 : Int32) (u : mM × Int64) => r2 = r ∧ u = (fR, t)) (atW D (wR ad cy)) (aR ad)) 0 0 (aR ad) := by
  refine Met.ofW (cc := cX10_way) (maxL := 6) (ret := (some .int)) (by decide) rfl ?_
  intro p e s m args below meth c s₁ B hml hv
  obtain ⟨rfl, hP, hK, hX0⟩ := hv
  have hl := lv_entry ([.ref (ad 0), .int x1, .int x2, .int x3, .int x4]) (n := 6) (Nat.le_of_ble_eq_true rfl)
  rw [lg_entry_eq]
  generalize (lg_sl ([.ref (ad 0), .int x1, .int x2, .int x3, .int x4]) ++ List.replicate (6 - (lg_sl ([.ref (ad 0), .int x1, .int x2, .int x3, .int x4])).length) Slot.unset).toArray = ls at hl ⊢
  have hlocks := B.notSynchronized
  exact b_X10_way ⟨B.exec, B.bytes, B.returns, hml, findClass_of_methodNamed B.named, atoms_spec (ws := wsX10_way) B.pre, hlocks, hK, hX0⟩ hj ⟨Nat.le_refl _, Nat.le_refl _⟩ N x1 x2 x3 x4 f t r fR hf (fun H locs ls pc hd hP hS => W.iret B.exec B.bytes B.returns (fun t2 ht hW => ⟨⟨r, (fR, t), rfl, ⟨rfl, rfl⟩, by show va_P D vwCl _ t2.heap; rw [ht]; exact hP⟩, hS.F ht⟩) hS.2.2 hd) s.heap [] ls hP va_S.rf hl
def q_X10_treads (x1 : Int32) (x2 : Int32) (x3 : Int32) (f : mM) : Option (Int32 × mM) := gi x2 50 (gi x2 50 (sq (st2 f 8 (Int32.toNatClampNeg x2) ((f 8 (Int32.toNatClampNeg x2)) - x3)) (fun f3 => if x3 = 0 then some (0, f3) else gi x2 50 (if (f3 8 (Int32.toNatClampNeg x2)) ≤ 0 then gi 9 50 (if 20 ≤ (f3 8 (Int32.toNatClampNeg 9)) then some (1, f3) else gi 9 50 (gi (10 + (2 * (f3 8 (Int32.toNatClampNeg 9)))) 50 (sq (st2 f3 8 (Int32.toNatClampNeg (10 + (2 * (f3 8 (Int32.toNatClampNeg 9))))) x2) (fun f8 => gi 9 50 (gi ((10 + (2 * (f8 8 (Int32.toNatClampNeg 9)))) + 1) 50 (sq (st2 f8 8 (Int32.toNatClampNeg ((10 + (2 * (f8 8 (Int32.toNatClampNeg 9)))) + 1)) x1) (fun f11 => gi 9 50 (gi 9 50 (sq (st2 f11 8 (Int32.toNatClampNeg 9) ((f11 8 (Int32.toNatClampNeg 9)) + 1)) (fun f14 => some (1, f14))))))))))) else some (0, f3)))))
set_option maxHeartbeats 4000000 in
set_option maxRecDepth 100000 in
theorem b_X10_treads (C0 : cX p s m args meth c cX10_treads 4 (some .int) RX10 wsX10_treads D cy (xR)) (hj : jR ad) (hR : 0 ≤ R.frames ∧ 0 ≤ R.locals) (x1 : Int32) (x2 : Int32) (x3 : Int32) (f : mM) (t : Int64) (r : Int32) (fR : mM) (hf : q_X10_treads x1 x2 x3 f = some (r, fR)) (kr : ∀ (H : Heap) (locs : List Loc) (ls : Array Slot) (pc : Nat), decode cX10_treads pc = .ok (.ireturn, 1) → va_P D vwCl (wR ad cy fR t) H → va_S (aR ad) s.heap H locs → W p l e R s m args below meth c H locs 0 0 Q (F0 m pc ls [.int r])) (H : Heap) (locs : List Loc) (ls : Array Slot) (hP : va_P D vwCl (wR ad cy f t) H) (hS : va_S (aR ad) s.heap H locs) (hl : lv_has ls 4 [(0, .ref (ad 0)), (1, .int x1), (2, .int x2), (3, .int x3)]) : W p l e R s m args below meth c H locs 0 0 Q (F0 m 0 ls []) := by
  obtain ⟨hx, hb, hr, hml, hown, hts, hlocks, hK, hX0⟩ := id C0
  have lk31 := hts (.fieldLink RX10 31 "PlankNineModel" "s" "[I") (List.mem_of_getElem? (i := 1) rfl)
  have hiX10 : ∀ w ∈ u_ws RX10 TX10 34, w ∈ wsX10_treads := fun w h => List.mem_cons_of_mem _ (List.mem_append_right _ h)
  unfold q_X10_treads at hf
  refine lv_aload_n hx hb dX10_treads_0 rfl (lv_at hl 0 rfl) ?_
  refine va_get (D := D) (ci := 10) (v := .ref (ad 8)) (C := RX10) (T := TX10) (N := 34) hx hb hts hiX10 hown hK hP 0 rfl rfl 23 (by decide) lk31 (fun _ h9 => h9) rfl dX10_treads_1 ?_
  refine lv_iload_n hx hb dX10_treads_4 rfl (lv_at hl 2 rfl) ?_
  refine lv_dup2_11 hx hb dX10_treads_5 rfl rfl ?_
  obtain ⟨hin1, hf⟩ := gi_out hf
  refine va_iald hx hb hK hP 8 1 rfl rfl hin1 dX10_treads_6 ?_
  refine lv_iload_n hx hb dX10_treads_7 rfl (lv_at hl 3 rfl) ?_
  refine lv_isub hx hb dX10_treads_8 ?_
  obtain ⟨hin2, hf⟩ := gi_out hf
  obtain ⟨f3, ef3, hf⟩ := sq_out hf
  refine va_iast hx hb hK hP (dR hj f t) hS 8 1 rfl rfl hin2 dX10_treads_9 (fun H locs hP _ hS => ?_)
  have hP := sR_8 ef3 hP
  refine lv_iload_n hx hb dX10_treads_10 rfl (lv_at hl 3 rfl) ?_
  refine lv_if_eq (tgt := 23) hx hb dX10_treads_11 (by decide) (fun c11 => ?_) (fun c11 => ?_)
  · have hf := itT hf c11
    refine lv_iconst (v := 0) hx hb dX10_treads_23 (by decide) ?_
    obtain ⟨rfl, rfl⟩ := Prod.mk.inj (Option.some.inj hf)
    exact kr H locs ls 24 dX10_treads_24 hP hS
  · have hf := itF hf c11
    refine lv_aload_n hx hb dX10_treads_14 rfl (lv_at hl 0 rfl) ?_
    refine va_get (D := D) (ci := 10) (v := .ref (ad 8)) (C := RX10) (T := TX10) (N := 34) hx hb hts hiX10 hown hK hP 0 rfl rfl 23 (by decide) lk31 (fun _ h9 => h9) rfl dX10_treads_15 ?_
    refine lv_iload_n hx hb dX10_treads_18 rfl (lv_at hl 2 rfl) ?_
    obtain ⟨hin4, hf⟩ := gi_out hf
    refine va_iald hx hb hK hP 8 1 rfl rfl hin4 dX10_treads_19 ?_
    refine lv_if_le (tgt := 25) hx hb dX10_treads_20 (by decide) (fun c20 => ?_) (fun c20 => ?_)
    · have hf := itT hf c20
      refine lv_aload_n hx hb dX10_treads_25 rfl (lv_at hl 0 rfl) ?_
      refine va_get (D := D) (ci := 10) (v := .ref (ad 8)) (C := RX10) (T := TX10) (N := 34) hx hb hts hiX10 hown hK hP 0 rfl rfl 23 (by decide) lk31 (fun _ h9 => h9) rfl dX10_treads_26 ?_
      refine lv_bipush (v := 9) hx hb dX10_treads_29 (by decide) ?_
      obtain ⟨hin5, hf⟩ := gi_out hf
      refine va_iald hx hb hK hP 8 1 rfl rfl hin5 dX10_treads_31 ?_
      refine lv_bipush (v := 20) hx hb dX10_treads_32 (by decide) ?_
      refine lv_icmp_ge (tgt := 86) hx hb dX10_treads_34 (by decide) (fun c34 => ?_) (fun c34 => ?_)
      · have hf := itT hf c34
        refine lv_iconst (v := 1) hx hb dX10_treads_86 (by decide) ?_
        obtain ⟨rfl, rfl⟩ := Prod.mk.inj (Option.some.inj hf)
        exact kr H locs ls 87 dX10_treads_87 hP hS
      · have hf := itF hf c34
        refine lv_aload_n hx hb dX10_treads_37 rfl (lv_at hl 0 rfl) ?_
        refine va_get (D := D) (ci := 10) (v := .ref (ad 8)) (C := RX10) (T := TX10) (N := 34) hx hb hts hiX10 hown hK hP 0 rfl rfl 23 (by decide) lk31 (fun _ h9 => h9) rfl dX10_treads_38 ?_
        refine lv_bipush (v := 10) hx hb dX10_treads_41 (by decide) ?_
        refine lv_iconst (v := 2) hx hb dX10_treads_43 (by decide) ?_
        refine lv_aload_n hx hb dX10_treads_44 rfl (lv_at hl 0 rfl) ?_
        refine va_get (D := D) (ci := 10) (v := .ref (ad 8)) (C := RX10) (T := TX10) (N := 34) hx hb hts hiX10 hown hK hP 0 rfl rfl 23 (by decide) lk31 (fun _ h9 => h9) rfl dX10_treads_45 ?_
        refine lv_bipush (v := 9) hx hb dX10_treads_48 (by decide) ?_
        obtain ⟨hin6, hf⟩ := gi_out hf
        refine va_iald hx hb hK hP 8 1 rfl rfl hin6 dX10_treads_50 ?_
        refine lv_imul hx hb dX10_treads_51 ?_
        refine lv_iadd hx hb dX10_treads_52 ?_
        refine lv_iload_n hx hb dX10_treads_53 rfl (lv_at hl 2 rfl) ?_
        obtain ⟨hin7, hf⟩ := gi_out hf
        obtain ⟨f8, ef8, hf⟩ := sq_out hf
        refine va_iast hx hb hK hP (dR hj f3 t) hS 8 1 rfl rfl hin7 dX10_treads_54 (fun H locs hP _ hS => ?_)
        have hP := sR_8 ef8 hP
        refine lv_aload_n hx hb dX10_treads_55 rfl (lv_at hl 0 rfl) ?_
        refine va_get (D := D) (ci := 10) (v := .ref (ad 8)) (C := RX10) (T := TX10) (N := 34) hx hb hts hiX10 hown hK hP 0 rfl rfl 23 (by decide) lk31 (fun _ h9 => h9) rfl dX10_treads_56 ?_
        refine lv_bipush (v := 10) hx hb dX10_treads_59 (by decide) ?_
        refine lv_iconst (v := 2) hx hb dX10_treads_61 (by decide) ?_
        refine lv_aload_n hx hb dX10_treads_62 rfl (lv_at hl 0 rfl) ?_
        refine va_get (D := D) (ci := 10) (v := .ref (ad 8)) (C := RX10) (T := TX10) (N := 34) hx hb hts hiX10 hown hK hP 0 rfl rfl 23 (by decide) lk31 (fun _ h9 => h9) rfl dX10_treads_63 ?_
        refine lv_bipush (v := 9) hx hb dX10_treads_66 (by decide) ?_
        obtain ⟨hin9, hf⟩ := gi_out hf
        refine va_iald hx hb hK hP 8 1 rfl rfl hin9 dX10_treads_68 ?_
        refine lv_imul hx hb dX10_treads_69 ?_
        refine lv_iadd hx hb dX10_treads_70 ?_
        refine lv_iconst (v := 1) hx hb dX10_treads_71 (by decide) ?_
        refine lv_iadd hx hb dX10_treads_72 ?_
        refine lv_iload_n hx hb dX10_treads_73 rfl (lv_at hl 1 rfl) ?_
        obtain ⟨hin10, hf⟩ := gi_out hf
        obtain ⟨f11, ef11, hf⟩ := sq_out hf
        refine va_iast hx hb hK hP (dR hj f8 t) hS 8 1 rfl rfl hin10 dX10_treads_74 (fun H locs hP _ hS => ?_)
        have hP := sR_8 ef11 hP
        refine lv_aload_n hx hb dX10_treads_75 rfl (lv_at hl 0 rfl) ?_
        refine va_get (D := D) (ci := 10) (v := .ref (ad 8)) (C := RX10) (T := TX10) (N := 34) hx hb hts hiX10 hown hK hP 0 rfl rfl 23 (by decide) lk31 (fun _ h9 => h9) rfl dX10_treads_76 ?_
        refine lv_bipush (v := 9) hx hb dX10_treads_79 (by decide) ?_
        refine lv_dup2_11 hx hb dX10_treads_81 rfl rfl ?_
        obtain ⟨hin12, hf⟩ := gi_out hf
        refine va_iald hx hb hK hP 8 1 rfl rfl hin12 dX10_treads_82 ?_
        refine lv_iconst (v := 1) hx hb dX10_treads_83 (by decide) ?_
        refine lv_iadd hx hb dX10_treads_84 ?_
        obtain ⟨hin13, hf⟩ := gi_out hf
        obtain ⟨f14, ef14, hf⟩ := sq_out hf
        refine va_iast hx hb hK hP (dR hj f11 t) hS 8 1 rfl rfl hin13 dX10_treads_85 (fun H locs hP _ hS => ?_)
        have hP := sR_8 ef14 hP
        refine lv_iconst (v := 1) hx hb dX10_treads_86 (by decide) ?_
        obtain ⟨rfl, rfl⟩ := Prod.mk.inj (Option.some.inj hf)
        exact kr H locs ls 87 dX10_treads_87 hP hS
    · have hf := itF hf c20
      refine lv_iconst (v := 0) hx hb dX10_treads_23 (by decide) ?_
      obtain ⟨rfl, rfl⟩ := Prod.mk.inj (Option.some.inj hf)
      exact kr H locs ls 24 dX10_treads_24 hP hS
set_option maxHeartbeats 4000000 in
set_option maxRecDepth 100000 in
theorem c_X10_treads (hj : jR ad) (l : Launch) (x1 : Int32) (x2 : Int32) (x3 : Int32) (f : mM) (t : Int64) (r : Int32) (fR : mM) (hf : q_X10_treads x1 x2 x3 f = some (r, fR)) : Met l yX10_treads wsX10_treads ({ frames := 0, cells := 0, slots := 0, locals := 0 }) (va_Pc ([.ref (ad 0), .int x1, .int x2, .int x3]) (pre D cy (wR ad cy) (xR) f t)) (va_Qi (fun (r2 : Int32) (u : mM × Int64) => r2 = r ∧ u = (fR, t)) (atW D (wR ad cy)) (aR ad)) 0 0 (aR ad) := by
  refine Met.ofW (cc := cX10_treads) (maxL := 4) (ret := (some .int)) (by decide) rfl ?_
  intro p e s m args below meth c s₁ B hml hv
  obtain ⟨rfl, hP, hK, hX0⟩ := hv
  have hl := lv_entry ([.ref (ad 0), .int x1, .int x2, .int x3]) (n := 4) (Nat.le_of_ble_eq_true rfl)
  rw [lg_entry_eq]
  generalize (lg_sl ([.ref (ad 0), .int x1, .int x2, .int x3]) ++ List.replicate (4 - (lg_sl ([.ref (ad 0), .int x1, .int x2, .int x3])).length) Slot.unset).toArray = ls at hl ⊢
  have hlocks := B.notSynchronized
  exact b_X10_treads ⟨B.exec, B.bytes, B.returns, hml, findClass_of_methodNamed B.named, atoms_spec (ws := wsX10_treads) B.pre, hlocks, hK, hX0⟩ hj ⟨Nat.le_refl _, Nat.le_refl _⟩ x1 x2 x3 f t r fR hf (fun H locs ls pc hd hP hS => W.iret B.exec B.bytes B.returns (fun t2 ht hW => ⟨⟨r, (fR, t), rfl, ⟨rfl, rfl⟩, by show va_P D vwCl _ t2.heap; rw [ht]; exact hP⟩, hS.F ht⟩) hS.2.2 hd) s.heap [] ls hP va_S.rf hl
def lp_X10_goesBy_5 (N : Nat) (x1 : Int32) (x2 : Int32) : Nat → Int32 → Int32 → mM → Option (Int32 × mM)
  | 0, _, _, _ => none
  | n + 1, x3, x4, f => if x2 ≤ x4 then some (x3, f) else gi x4 6 (bi (q_X10_takenBy x1 x4 f) (fun y2 => bi2 (q_X10_treads x1 (f 13 (Int32.toNatClampNeg x4)) y2 f) (fun y4 f5 => sq (x3 + y4) (fun x3_7 => sq (x4 + 1) (fun x4_8 => lp_X10_goesBy_5 N x1 x2 n x3_7 x4_8 f5)))))
theorem lp_X10_goesBy_5_s (N : Nat) (x1 : Int32) (x2 : Int32) (n : Nat) (x3 : Int32) (x4 : Int32) (f : mM) : lp_X10_goesBy_5 N x1 x2 (n + 1) x3 x4 f = (if x2 ≤ x4 then some (x3, f) else gi x4 6 (bi (q_X10_takenBy x1 x4 f) (fun y2 => bi2 (q_X10_treads x1 (f 13 (Int32.toNatClampNeg x4)) y2 f) (fun y4 f5 => sq (x3 + y4) (fun x3_7 => sq (x4 + 1) (fun x4_8 => lp_X10_goesBy_5 N x1 x2 n x3_7 x4_8 f5)))))) := rfl
set_option maxHeartbeats 4000000 in
set_option maxRecDepth 100000 in
theorem lp_X10_goesBy_5_w (C0 : cX p s m args meth c cX10_goesBy 5 (some .int) RX10 wsX10_goesBy D cy (xR)) (hj : jR ad) (hR : 1 ≤ R.frames ∧ 23 ≤ R.locals) (N : Nat) (x1 : Int32) (x2 : Int32) (t : Int64) (r3 : Int32) (fR : mM) (kx39 : ∀ (H : Heap) (locs : List Loc) (ls : Array Slot), va_P D vwCl (wR ad cy fR t) H → va_S (aR ad) s.heap H locs → lv_has ls 5 [(3, .int r3)] → W p l e R s m args below meth c H locs 0 0 Q (F0 m 39 ls [])) : ∀ (n : Nat) (x3 : Int32) (x4 : Int32) (f : mM), lp_X10_goesBy_5 N x1 x2 n x3 x4 f = some (r3, fR) → ∀ (H : Heap) (locs : List Loc) (ls : Array Slot), va_P D vwCl (wR ad cy f t) H → va_S (aR ad) s.heap H locs → lv_has ls 5 [(0, .ref (ad 0)), (1, .int x1), (2, .int x2), (3, .int x3), (4, .int x4)] → W p l e R s m args below meth c H locs 0 0 Q (F0 m 5 ls []) := by
  obtain ⟨hx, hb, hr, hml, hown, hts, hlocks, hK, hX0⟩ := id C0
  have lk47 := hts (.fieldLink RX10 47 "PlankNineModel" "best" "[I") (List.mem_of_getElem? (i := 1) rfl)
  have hiX10 : ∀ w ∈ u_ws RX10 TX10 34, w ∈ wsX10_goesBy := fun w h => List.mem_cons_of_mem _ (List.mem_append_right _ h)
  intro n
  induction n with
  | zero =>
    intro x3 x4 f hf
    exact no_none hf
  | succ n ih =>
    intro x3 x4 f hf H locs ls hP hS hl
    have hf := (lp_X10_goesBy_5_s N x1 x2 n x3 x4 f).symm.trans hf
    refine lv_iload hx hb dX10_goesBy_5 (lv_at hl 4 rfl) ?_
    refine lv_iload_n hx hb dX10_goesBy_7 rfl (lv_at hl 2 rfl) ?_
    refine lv_icmp_ge (tgt := 39) hx hb dX10_goesBy_8 (by decide) (fun c8 => ?_) (fun c8 => ?_)
    · have hf := itT hf c8
      have hg_0 := Option.some.inj hf
      obtain ⟨rfl, rfl⟩ := Prod.mk.inj hg_0
      exact kx39 H locs ls hP hS (lv_sub hl [3] rfl)
    · have hf := itF hf c8
      refine lv_iload_n hx hb dX10_goesBy_11 rfl (lv_at hl 3 rfl) ?_
      refine lv_aload_n hx hb dX10_goesBy_12 rfl (lv_at hl 0 rfl) ?_
      refine lv_iload_n hx hb dX10_goesBy_13 rfl (lv_at hl 1 rfl) ?_
      refine lv_aload_n hx hb dX10_goesBy_14 rfl (lv_at hl 0 rfl) ?_
      refine va_get (D := D) (ci := 10) (v := .ref (ad 13)) (C := RX10) (T := TX10) (N := 34) hx hb hts hiX10 hown hK hP 0 rfl rfl 28 (by decide) lk47 (fun _ h9 => h9) rfl dX10_goesBy_15 ?_
      refine lv_iload hx hb dX10_goesBy_18 (lv_at hl 4 rfl) ?_
      obtain ⟨hin1, hf⟩ := gi_out hf
      refine va_iald hx hb hK hP 13 1 rfl rfl hin1 dX10_goesBy_20 ?_
      refine lv_aload_n hx hb dX10_goesBy_21 rfl (lv_at hl 0 rfl) ?_
      refine lv_iload_n hx hb dX10_goesBy_22 rfl (lv_at hl 1 rfl) ?_
      refine lv_iload hx hb dX10_goesBy_23 (lv_at hl 4 rfl) ?_
      obtain ⟨y2, hq3, hf⟩ := bi_out hf
      refine cw_vi (As := [.int x1, .int x4]) (rest := [.int (f 13 (Int32.toNatClampNeg x4)), .int x1, .ref (ad 0), .int x3]) ⟨hx, hb, hml, hown, hts⟩ xR_S hK hX0 hS hP (c_X10_takenBy hj l x1 x4 f t y2 hq3) (cwV 2 hts gX10_goesBy_X10_takenBy rfl rfl rfl (by decide +kernel) ⟨Nat.le_trans (Nat.le_of_ble_eq_true rfl) hR.1, Nat.le_trans (Nat.le_of_ble_eq_true rfl) hR.2⟩) (va_recv hK hP (ci := 10) (q0 := 0) rfl rfl) rfl hl.1 rfl (Nat.le_of_ble_eq_true rfl) ⟨Nat.zero_le _, Nat.zero_le _⟩ dX10_goesBy_25 (fun H locs hP hS => ?_)
      obtain ⟨y4, f5, hq6, hf⟩ := bi2_out hf
      refine cw_vi (As := [.int x1, .int (f 13 (Int32.toNatClampNeg x4)), .int y2]) (rest := [.int x3]) ⟨hx, hb, hml, hown, hts⟩ xR_S hK hX0 hS hP (c_X10_treads hj l x1 (f 13 (Int32.toNatClampNeg x4)) y2 f t y4 f5 hq6) (cwV 3 hts gX10_goesBy_X10_treads rfl rfl rfl (by decide +kernel) ⟨Nat.le_trans (Nat.le_of_ble_eq_true rfl) hR.1, Nat.le_trans (Nat.le_of_ble_eq_true rfl) hR.2⟩) (va_recv hK hP (ci := 10) (q0 := 0) rfl rfl) rfl hl.1 rfl (Nat.le_of_ble_eq_true rfl) ⟨Nat.zero_le _, Nat.zero_le _⟩ dX10_goesBy_28 (fun H locs hP hS => ?_)
      refine lv_iadd hx hb dX10_goesBy_31 ?_
      obtain ⟨x3_7, ex3_7, hf⟩ := sq_out hf
      refine lv_nmi ex3_7 ?_
      refine lv_istore_n (lv' := [(3, .int x3_7), (0, .ref (ad 0)), (1, .int x1), (2, .int x2), (4, .int x4)]) hx hb dX10_goesBy_32 rfl hl (by decide) rfl (fun ls hl => ?_)
      obtain ⟨x4_8, ex4_8, hf⟩ := sq_out hf
      refine lv_iinc (v := x4_8) (lv' := [(4, .int x4_8), (3, .int x3_7), (0, .ref (ad 0)), (1, .int x1), (2, .int x2)]) hx hb dX10_goesBy_33 hl (k := 4) rfl (by rw [ex4_8]; rfl) (by decide) rfl (fun ls hl => ?_)
      refine lv_goto (tgt := 5) hx hb dX10_goesBy_36 (by decide) ?_
      exact ih x3_7 x4_8 f5 hf H locs ls hP hS (lv_sub hl [2, 3, 4, 1, 0] rfl)
def q_X10_goesBy (N : Nat) (x1 : Int32) (x2 : Int32) (f : mM) : Option (Int32 × mM) := bi2 (lp_X10_goesBy_5 N x1 x2 N 0 0 f) (fun y9 f10 => some (y9, f10))
set_option maxHeartbeats 4000000 in
set_option maxRecDepth 100000 in
theorem b_X10_goesBy (C0 : cX p s m args meth c cX10_goesBy 5 (some .int) RX10 wsX10_goesBy D cy (xR)) (hj : jR ad) (hR : 1 ≤ R.frames ∧ 23 ≤ R.locals) (N : Nat) (x1 : Int32) (x2 : Int32) (f : mM) (t : Int64) (r : Int32) (fR : mM) (hf : q_X10_goesBy N x1 x2 f = some (r, fR)) (kr : ∀ (H : Heap) (locs : List Loc) (ls : Array Slot) (pc : Nat), decode cX10_goesBy pc = .ok (.ireturn, 1) → va_P D vwCl (wR ad cy fR t) H → va_S (aR ad) s.heap H locs → W p l e R s m args below meth c H locs 0 0 Q (F0 m pc ls [.int r])) (H : Heap) (locs : List Loc) (ls : Array Slot) (hP : va_P D vwCl (wR ad cy f t) H) (hS : va_S (aR ad) s.heap H locs) (hl : lv_has ls 5 [(0, .ref (ad 0)), (1, .int x1), (2, .int x2)]) : W p l e R s m args below meth c H locs 0 0 Q (F0 m 0 ls []) := by
  obtain ⟨hx, hb, hr, hml, hown, hts, hlocks, hK, hX0⟩ := id C0
  unfold q_X10_goesBy at hf
  refine lv_iconst (v := 0) hx hb dX10_goesBy_0 (by decide) ?_
  refine lv_istore_n (lv' := [(3, .int 0), (0, .ref (ad 0)), (1, .int x1), (2, .int x2)]) hx hb dX10_goesBy_1 rfl hl (by decide) rfl (fun ls hl => ?_)
  refine lv_iconst (v := 0) hx hb dX10_goesBy_2 (by decide) ?_
  refine lv_istore (lv' := [(4, .int 0), (3, .int 0), (0, .ref (ad 0)), (1, .int x1), (2, .int x2)]) hx hb dX10_goesBy_3 hl (by decide) rfl (fun ls hl => ?_)
  obtain ⟨y9, f10, hlp11, hf⟩ := bi2_out hf
  refine lp_X10_goesBy_5_w C0 hj hR N x1 x2 t y9 f10 ?_ N 0 0 f hlp11 H locs ls hP hS (lv_sub hl [2, 3, 4, 1, 0] rfl)
  intro H locs ls hP hS hl
  refine lv_iload_n hx hb dX10_goesBy_39 rfl (lv_at hl 0 rfl) ?_
  obtain ⟨rfl, rfl⟩ := Prod.mk.inj (Option.some.inj hf)
  exact kr H locs ls 40 dX10_goesBy_40 hP hS
set_option maxHeartbeats 4000000 in
set_option maxRecDepth 100000 in
theorem c_X10_goesBy (hj : jR ad) (l : Launch) (N : Nat) (x1 : Int32) (x2 : Int32) (f : mM) (t : Int64) (r : Int32) (fR : mM) (hf : q_X10_goesBy N x1 x2 f = some (r, fR)) : Met l yX10_goesBy wsX10_goesBy ({ frames := 1, cells := 0, slots := 0, locals := 23 }) (va_Pc ([.ref (ad 0), .int x1, .int x2]) (pre D cy (wR ad cy) (xR) f t)) (va_Qi (fun (r2 : Int32) (u : mM × Int64) => r2 = r ∧ u = (fR, t)) (atW D (wR ad cy)) (aR ad)) 0 0 (aR ad) := by
  refine Met.ofW (cc := cX10_goesBy) (maxL := 5) (ret := (some .int)) (by decide) rfl ?_
  intro p e s m args below meth c s₁ B hml hv
  obtain ⟨rfl, hP, hK, hX0⟩ := hv
  have hl := lv_entry ([.ref (ad 0), .int x1, .int x2]) (n := 5) (Nat.le_of_ble_eq_true rfl)
  rw [lg_entry_eq]
  generalize (lg_sl ([.ref (ad 0), .int x1, .int x2]) ++ List.replicate (5 - (lg_sl ([.ref (ad 0), .int x1, .int x2])).length) Slot.unset).toArray = ls at hl ⊢
  have hlocks := B.notSynchronized
  exact b_X10_goesBy ⟨B.exec, B.bytes, B.returns, hml, findClass_of_methodNamed B.named, atoms_spec (ws := wsX10_goesBy) B.pre, hlocks, hK, hX0⟩ hj ⟨Nat.le_refl _, Nat.le_refl _⟩ N x1 x2 f t r fR hf (fun H locs ls pc hd hP hS => W.iret B.exec B.bytes B.returns (fun t2 ht hW => ⟨⟨r, (fR, t), rfl, ⟨rfl, rfl⟩, by show va_P D vwCl _ t2.heap; rw [ht]; exact hP⟩, hS.F ht⟩) hS.2.2 hd) s.heap [] ls hP va_S.rf hl
def q_X10_go (N : Nat) (x1 : Int32) (x2 : Int32) (x3 : Int32) (f : mM) : Option (Int32 × mM) := sq (st2 f 0 0 0) (fun f1 => bi (q_X10_isPerson x1 f1) (fun y2 => if y2 = 0 then some ((-1), f1) else bi (q_X10_arePlaces x2 x3 f1) (fun y4 => if y4 = 0 then some ((-1), f1) else bi2 (q_X10_firstWay N x1 x2 x3 f1) (fun y6 f7 => if y6 = (-9) then some ((-2), f7) else bi2 (q_X10_goesBy N x1 y6 f7) (fun y9 f10 => some (y9, f10))))))
set_option maxHeartbeats 4000000 in
set_option maxRecDepth 100000 in
theorem b_X10_go (C0 : cX p s m args meth c cX10_go 5 (some .int) RX10 wsX10_go D cy (xR)) (hj : jR ad) (hR : 3 ≤ R.frames ∧ 76 ≤ R.locals) (N : Nat) (x1 : Int32) (x2 : Int32) (x3 : Int32) (f : mM) (t : Int64) (r : Int32) (fR : mM) (hf : q_X10_go N x1 x2 x3 f = some (r, fR)) (kr : ∀ (H : Heap) (locs : List Loc) (ls : Array Slot) (pc : Nat), decode cX10_go pc = .ok (.ireturn, 1) → va_P D vwCl (wR ad cy fR t) H → va_S (aR ad) s.heap H locs → W p l e R s m args below meth c H locs 0 0 Q (F0 m pc ls [.int r])) (H : Heap) (locs : List Loc) (ls : Array Slot) (hP : va_P D vwCl (wR ad cy f t) H) (hS : va_S (aR ad) s.heap H locs) (hl : lv_has ls 5 [(0, .ref (ad 0)), (1, .int x1), (2, .int x2), (3, .int x3)]) : W p l e R s m args below meth c H locs 0 0 Q (F0 m 0 ls []) := by
  obtain ⟨hx, hb, hr, hml, hown, hts, hlocks, hK, hX0⟩ := id C0
  have lk69 := hts (.fieldLink RX10 69 "PlankNineModel" "thrown" "I") (List.mem_of_getElem? (i := 1) rfl)
  have hiX10 : ∀ w ∈ u_ws RX10 TX10 34, w ∈ wsX10_go := fun w h => List.mem_cons_of_mem _ (List.mem_append_right _ h)
  unfold q_X10_go at hf
  refine lv_aload_n hx hb dX10_go_0 rfl (lv_at hl 0 rfl) ?_
  refine lv_iconst (v := 0) hx hb dX10_go_1 (by decide) ?_
  obtain ⟨f1, ef1, hf⟩ := sq_out hf
  refine va_put (D := D) (ci := 10) (v := .int 0) (ty := .int) (C := RX10) (T := TX10) (N := 34) hx hb hts hiX10 tyX10 tyX10_ok nmX10 hown hK hP (dR hj f t) hS 0 rfl rfl 0 (by decide) lk69 (fun _ h9 => h9) rfl (by decide +kernel) rfl rfl (Nat.le_of_ble_eq_true rfl) dX10_go_2 (fun H locs hP _ hS => ?_)
  have hP := sR_0_0 ef1 hP
  refine lv_aload_n hx hb dX10_go_5 rfl (lv_at hl 0 rfl) ?_
  refine lv_iload_n hx hb dX10_go_6 rfl (lv_at hl 1 rfl) ?_
  obtain ⟨y2, hq3, hf⟩ := bi_out hf
  refine cw_vi (As := [.int x1]) (rest := []) ⟨hx, hb, hml, hown, hts⟩ xR_S hK hX0 hS hP (c_X10_isPerson hj l x1 f1 t y2 hq3) (cwV 1 hts gX10_go_X10_isPerson rfl rfl rfl (by decide +kernel) ⟨Nat.le_trans (Nat.le_of_ble_eq_true rfl) hR.1, Nat.le_trans (Nat.le_of_ble_eq_true rfl) hR.2⟩) (va_recv hK hP (ci := 10) (q0 := 0) rfl rfl) rfl hl.1 rfl (Nat.le_of_ble_eq_true rfl) ⟨Nat.zero_le _, Nat.zero_le _⟩ dX10_go_7 (fun H locs hP hS => ?_)
  refine lv_if_eq (tgt := 22) hx hb dX10_go_10 (by decide) (fun c10 => ?_) (fun c10 => ?_)
  · have hf := itT hf c10
    refine lv_iconst (v := (-1)) hx hb dX10_go_22 (by decide) ?_
    obtain ⟨rfl, rfl⟩ := Prod.mk.inj (Option.some.inj hf)
    exact kr H locs ls 23 dX10_go_23 hP hS
  · have hf := itF hf c10
    refine lv_aload_n hx hb dX10_go_13 rfl (lv_at hl 0 rfl) ?_
    refine lv_iload_n hx hb dX10_go_14 rfl (lv_at hl 2 rfl) ?_
    refine lv_iload_n hx hb dX10_go_15 rfl (lv_at hl 3 rfl) ?_
    obtain ⟨y4, hq5, hf⟩ := bi_out hf
    refine cw_vi (As := [.int x2, .int x3]) (rest := []) ⟨hx, hb, hml, hown, hts⟩ xR_S hK hX0 hS hP (c_X10_arePlaces hj l x2 x3 f1 t y4 hq5) (cwV 2 hts gX10_go_X10_arePlaces rfl rfl rfl (by decide +kernel) ⟨Nat.le_trans (Nat.le_of_ble_eq_true rfl) hR.1, Nat.le_trans (Nat.le_of_ble_eq_true rfl) hR.2⟩) (va_recv hK hP (ci := 10) (q0 := 0) rfl rfl) rfl hl.1 rfl (Nat.le_of_ble_eq_true rfl) ⟨Nat.zero_le _, Nat.zero_le _⟩ dX10_go_16 (fun H locs hP hS => ?_)
    refine lv_if_ne (tgt := 24) hx hb dX10_go_19 (by decide) (fun c19 => ?_) (fun c19 => ?_)
    · have hf := itF hf c19
      refine lv_aload_n hx hb dX10_go_24 rfl (lv_at hl 0 rfl) ?_
      refine lv_iload_n hx hb dX10_go_25 rfl (lv_at hl 1 rfl) ?_
      refine lv_iload_n hx hb dX10_go_26 rfl (lv_at hl 2 rfl) ?_
      refine lv_iload_n hx hb dX10_go_27 rfl (lv_at hl 3 rfl) ?_
      obtain ⟨y6, f7, hq8, hf⟩ := bi2_out hf
      refine cw_vi (As := [.int x1, .int x2, .int x3]) (rest := []) ⟨hx, hb, hml, hown, hts⟩ xR_S hK hX0 hS hP (c_X10_firstWay hj l N x1 x2 x3 f1 t y6 f7 hq8) (cwV 3 hts gX10_go_X10_firstWay rfl rfl rfl (by decide +kernel) ⟨Nat.le_trans (Nat.le_of_ble_eq_true rfl) hR.1, Nat.le_trans (Nat.le_of_ble_eq_true rfl) hR.2⟩) (va_recv hK hP (ci := 10) (q0 := 0) rfl rfl) rfl hl.1 rfl (Nat.le_of_ble_eq_true rfl) ⟨Nat.zero_le _, Nat.zero_le _⟩ dX10_go_28 (fun H locs hP hS => ?_)
      refine lv_istore (lv' := [(4, .int y6), (0, .ref (ad 0)), (1, .int x1), (2, .int x2), (3, .int x3)]) hx hb dX10_go_31 hl (by decide) rfl (fun ls hl => ?_)
      refine lv_iload hx hb dX10_go_33 (lv_at hl 0 rfl) ?_
      refine lv_bipush (v := (-9)) hx hb dX10_go_35 (by decide) ?_
      refine lv_icmp_ne (tgt := 45) hx hb dX10_go_37 (by decide) (fun c37 => ?_) (fun c37 => ?_)
      · have hf := itF hf c37
        refine lv_aload_n hx hb dX10_go_45 rfl (lv_at hl 1 rfl) ?_
        refine lv_iload_n hx hb dX10_go_46 rfl (lv_at hl 2 rfl) ?_
        refine lv_iload hx hb dX10_go_47 (lv_at hl 0 rfl) ?_
        obtain ⟨y9, f10, hq11, hf⟩ := bi2_out hf
        refine cw_vi (As := [.int x1, .int y6]) (rest := []) ⟨hx, hb, hml, hown, hts⟩ xR_S hK hX0 hS hP (c_X10_goesBy hj l N x1 y6 f7 t y9 f10 hq11) (cwV 2 hts gX10_go_X10_goesBy rfl rfl rfl (by decide +kernel) ⟨Nat.le_trans (Nat.le_of_ble_eq_true rfl) hR.1, Nat.le_trans (Nat.le_of_ble_eq_true rfl) hR.2⟩) (va_recv hK hP (ci := 10) (q0 := 0) rfl rfl) rfl hl.1 rfl (Nat.le_of_ble_eq_true rfl) ⟨Nat.zero_le _, Nat.zero_le _⟩ dX10_go_49 (fun H locs hP hS => ?_)
        obtain ⟨rfl, rfl⟩ := Prod.mk.inj (Option.some.inj hf)
        exact kr H locs ls 52 dX10_go_52 hP hS
      · have hf := itT hf c37
        refine lv_bipush (v := (-2)) hx hb dX10_go_40 (by decide) ?_
        refine lv_goto (tgt := 52) hx hb dX10_go_42 (by decide) ?_
        obtain ⟨rfl, rfl⟩ := Prod.mk.inj (Option.some.inj hf)
        exact kr H locs ls 52 dX10_go_52 hP hS
    · have hf := itT hf c19
      refine lv_iconst (v := (-1)) hx hb dX10_go_22 (by decide) ?_
      obtain ⟨rfl, rfl⟩ := Prod.mk.inj (Option.some.inj hf)
      exact kr H locs ls 23 dX10_go_23 hP hS
set_option maxHeartbeats 4000000 in
set_option maxRecDepth 100000 in
theorem c_X10_go (hj : jR ad) (l : Launch) (N : Nat) (x1 : Int32) (x2 : Int32) (x3 : Int32) (f : mM) (t : Int64) (r : Int32) (fR : mM) (hf : q_X10_go N x1 x2 x3 f = some (r, fR)) : Met l yX10_go wsX10_go ({ frames := 3, cells := 0, slots := 0, locals := 76 }) (va_Pc ([.ref (ad 0), .int x1, .int x2, .int x3]) (pre D cy (wR ad cy) (xR) f t)) (va_Qi (fun (r2 : Int32) (u : mM × Int64) => r2 = r ∧ u = (fR, t)) (atW D (wR ad cy)) (aR ad)) 0 0 (aR ad) := by
  refine Met.ofW (cc := cX10_go) (maxL := 5) (ret := (some .int)) (by decide) rfl ?_
  intro p e s m args below meth c s₁ B hml hv
  obtain ⟨rfl, hP, hK, hX0⟩ := hv
  have hl := lv_entry ([.ref (ad 0), .int x1, .int x2, .int x3]) (n := 5) (Nat.le_of_ble_eq_true rfl)
  rw [lg_entry_eq]
  generalize (lg_sl ([.ref (ad 0), .int x1, .int x2, .int x3]) ++ List.replicate (5 - (lg_sl ([.ref (ad 0), .int x1, .int x2, .int x3])).length) Slot.unset).toArray = ls at hl ⊢
  have hlocks := B.notSynchronized
  exact b_X10_go ⟨B.exec, B.bytes, B.returns, hml, findClass_of_methodNamed B.named, atoms_spec (ws := wsX10_go) B.pre, hlocks, hK, hX0⟩ hj ⟨Nat.le_refl _, Nat.le_refl _⟩ N x1 x2 x3 f t r fR hf (fun H locs ls pc hd hP hS => W.iret B.exec B.bytes B.returns (fun t2 ht hW => ⟨⟨r, (fR, t), rfl, ⟨rfl, rfl⟩, by show va_P D vwCl _ t2.heap; rw [ht]; exact hP⟩, hS.F ht⟩) hS.2.2 hd) s.heap [] ls hP va_S.rf hl
def q_X10_steps (x1 : Int32) (x2 : Int32) (f : mM) : Option (Int32 × mM) := sq (st2 f 0 0 0) (fun f1 => bi (q_X10_isPerson x1 f1) (fun y2 => if y2 = 0 then some ((-1), f1) else bi (q_X10_isPlank x2 f1) (fun y4 => if y4 = 0 then some ((-1), f1) else gi x2 50 (gi x1 8 (if (f1 5 (Int32.toNatClampNeg x1)) ≤ (f1 8 (Int32.toNatClampNeg x2)) then gi x1 8 (bi2 (q_X10_treads x1 x2 (f1 5 (Int32.toNatClampNeg x1)) f1) (fun y9 f10 => gi x2 50 (some ((f10 8 (Int32.toNatClampNeg x2)), f10)))) else some ((-2), f1))))))
set_option maxHeartbeats 4000000 in
set_option maxRecDepth 100000 in
theorem b_X10_steps (C0 : cX p s m args meth c cX10_steps 3 (some .int) RX10 wsX10_steps D cy (xR)) (hj : jR ad) (hR : 2 ≤ R.frames ∧ 43 ≤ R.locals) (x1 : Int32) (x2 : Int32) (f : mM) (t : Int64) (r : Int32) (fR : mM) (hf : q_X10_steps x1 x2 f = some (r, fR)) (kr : ∀ (H : Heap) (locs : List Loc) (ls : Array Slot) (pc : Nat), decode cX10_steps pc = .ok (.ireturn, 1) → va_P D vwCl (wR ad cy fR t) H → va_S (aR ad) s.heap H locs → W p l e R s m args below meth c H locs 0 0 Q (F0 m pc ls [.int r])) (H : Heap) (locs : List Loc) (ls : Array Slot) (hP : va_P D vwCl (wR ad cy f t) H) (hS : va_S (aR ad) s.heap H locs) (hl : lv_has ls 3 [(0, .ref (ad 0)), (1, .int x1), (2, .int x2)]) : W p l e R s m args below meth c H locs 0 0 Q (F0 m 0 ls []) := by
  obtain ⟨hx, hb, hr, hml, hown, hts, hlocks, hK, hX0⟩ := id C0
  have lk69 := hts (.fieldLink RX10 69 "PlankNineModel" "thrown" "I") (List.mem_of_getElem? (i := 1) rfl)
  have hiX10 : ∀ w ∈ u_ws RX10 TX10 34, w ∈ wsX10_steps := fun w h => List.mem_cons_of_mem _ (List.mem_append_right _ h)
  have lk31 := hts (.fieldLink RX10 31 "PlankNineModel" "s" "[I") (List.mem_of_getElem? (i := 2) rfl)
  have lk22 := hts (.fieldLink RX10 22 "PlankNineModel" "weight" "[I") (List.mem_of_getElem? (i := 3) rfl)
  unfold q_X10_steps at hf
  refine lv_aload_n hx hb dX10_steps_0 rfl (lv_at hl 0 rfl) ?_
  refine lv_iconst (v := 0) hx hb dX10_steps_1 (by decide) ?_
  obtain ⟨f1, ef1, hf⟩ := sq_out hf
  refine va_put (D := D) (ci := 10) (v := .int 0) (ty := .int) (C := RX10) (T := TX10) (N := 34) hx hb hts hiX10 tyX10 tyX10_ok nmX10 hown hK hP (dR hj f t) hS 0 rfl rfl 0 (by decide) lk69 (fun _ h9 => h9) rfl (by decide +kernel) rfl rfl (Nat.le_of_ble_eq_true rfl) dX10_steps_2 (fun H locs hP _ hS => ?_)
  have hP := sR_0_0 ef1 hP
  refine lv_aload_n hx hb dX10_steps_5 rfl (lv_at hl 0 rfl) ?_
  refine lv_iload_n hx hb dX10_steps_6 rfl (lv_at hl 1 rfl) ?_
  obtain ⟨y2, hq3, hf⟩ := bi_out hf
  refine cw_vi (As := [.int x1]) (rest := []) ⟨hx, hb, hml, hown, hts⟩ xR_S hK hX0 hS hP (c_X10_isPerson hj l x1 f1 t y2 hq3) (cwV 1 hts gX10_steps_X10_isPerson rfl rfl rfl (by decide +kernel) ⟨Nat.le_trans (Nat.le_of_ble_eq_true rfl) hR.1, Nat.le_trans (Nat.le_of_ble_eq_true rfl) hR.2⟩) (va_recv hK hP (ci := 10) (q0 := 0) rfl rfl) rfl hl.1 rfl (Nat.le_of_ble_eq_true rfl) ⟨Nat.zero_le _, Nat.zero_le _⟩ dX10_steps_7 (fun H locs hP hS => ?_)
  refine lv_if_eq (tgt := 21) hx hb dX10_steps_10 (by decide) (fun c10 => ?_) (fun c10 => ?_)
  · have hf := itT hf c10
    refine lv_iconst (v := (-1)) hx hb dX10_steps_21 (by decide) ?_
    obtain ⟨rfl, rfl⟩ := Prod.mk.inj (Option.some.inj hf)
    exact kr H locs ls 22 dX10_steps_22 hP hS
  · have hf := itF hf c10
    refine lv_aload_n hx hb dX10_steps_13 rfl (lv_at hl 0 rfl) ?_
    refine lv_iload_n hx hb dX10_steps_14 rfl (lv_at hl 2 rfl) ?_
    obtain ⟨y4, hq5, hf⟩ := bi_out hf
    refine cw_vi (As := [.int x2]) (rest := []) ⟨hx, hb, hml, hown, hts⟩ xR_S hK hX0 hS hP (c_X10_isPlank hj l x2 f1 t y4 hq5) (cwV 1 hts gX10_steps_X10_isPlank rfl rfl rfl (by decide +kernel) ⟨Nat.le_trans (Nat.le_of_ble_eq_true rfl) hR.1, Nat.le_trans (Nat.le_of_ble_eq_true rfl) hR.2⟩) (va_recv hK hP (ci := 10) (q0 := 0) rfl rfl) rfl hl.1 rfl (Nat.le_of_ble_eq_true rfl) ⟨Nat.zero_le _, Nat.zero_le _⟩ dX10_steps_15 (fun H locs hP hS => ?_)
    refine lv_if_ne (tgt := 23) hx hb dX10_steps_18 (by decide) (fun c18 => ?_) (fun c18 => ?_)
    · have hf := itF hf c18
      refine lv_aload_n hx hb dX10_steps_23 rfl (lv_at hl 0 rfl) ?_
      refine va_get (D := D) (ci := 10) (v := .ref (ad 8)) (C := RX10) (T := TX10) (N := 34) hx hb hts hiX10 hown hK hP 0 rfl rfl 23 (by decide) lk31 (fun _ h9 => h9) rfl dX10_steps_24 ?_
      refine lv_iload_n hx hb dX10_steps_27 rfl (lv_at hl 2 rfl) ?_
      obtain ⟨hin6, hf⟩ := gi_out hf
      refine va_iald hx hb hK hP 8 1 rfl rfl hin6 dX10_steps_28 ?_
      refine lv_aload_n hx hb dX10_steps_29 rfl (lv_at hl 0 rfl) ?_
      refine va_get (D := D) (ci := 10) (v := .ref (ad 5)) (C := RX10) (T := TX10) (N := 34) hx hb hts hiX10 hown hK hP 0 rfl rfl 12 (by decide) lk22 (fun _ h9 => h9) rfl dX10_steps_30 ?_
      refine lv_iload_n hx hb dX10_steps_33 rfl (lv_at hl 1 rfl) ?_
      obtain ⟨hin7, hf⟩ := gi_out hf
      refine va_iald hx hb hK hP 5 1 rfl rfl hin7 dX10_steps_34 ?_
      refine lv_icmp_ge (tgt := 41) hx hb dX10_steps_35 (by decide) (fun c35 => ?_) (fun c35 => ?_)
      · have hf := itT hf c35
        refine lv_aload_n hx hb dX10_steps_41 rfl (lv_at hl 0 rfl) ?_
        refine lv_iload_n hx hb dX10_steps_42 rfl (lv_at hl 1 rfl) ?_
        refine lv_iload_n hx hb dX10_steps_43 rfl (lv_at hl 2 rfl) ?_
        refine lv_aload_n hx hb dX10_steps_44 rfl (lv_at hl 0 rfl) ?_
        refine va_get (D := D) (ci := 10) (v := .ref (ad 5)) (C := RX10) (T := TX10) (N := 34) hx hb hts hiX10 hown hK hP 0 rfl rfl 12 (by decide) lk22 (fun _ h9 => h9) rfl dX10_steps_45 ?_
        refine lv_iload_n hx hb dX10_steps_48 rfl (lv_at hl 1 rfl) ?_
        obtain ⟨hin8, hf⟩ := gi_out hf
        refine va_iald hx hb hK hP 5 1 rfl rfl hin8 dX10_steps_49 ?_
        obtain ⟨y9, f10, hq11, hf⟩ := bi2_out hf
        refine cw_vi (As := [.int x1, .int x2, .int (f1 5 (Int32.toNatClampNeg x1))]) (rest := []) ⟨hx, hb, hml, hown, hts⟩ xR_S hK hX0 hS hP (c_X10_treads hj l x1 x2 (f1 5 (Int32.toNatClampNeg x1)) f1 t y9 f10 hq11) (cwV 3 hts gX10_steps_X10_treads rfl rfl rfl (by decide +kernel) ⟨Nat.le_trans (Nat.le_of_ble_eq_true rfl) hR.1, Nat.le_trans (Nat.le_of_ble_eq_true rfl) hR.2⟩) (va_recv hK hP (ci := 10) (q0 := 0) rfl rfl) rfl hl.1 rfl (Nat.le_of_ble_eq_true rfl) ⟨Nat.zero_le _, Nat.zero_le _⟩ dX10_steps_50 (fun H locs hP hS => ?_)
        refine lv_pop hx hb dX10_steps_53 rfl ?_
        refine lv_aload_n hx hb dX10_steps_54 rfl (lv_at hl 0 rfl) ?_
        refine va_get (D := D) (ci := 10) (v := .ref (ad 8)) (C := RX10) (T := TX10) (N := 34) hx hb hts hiX10 hown hK hP 0 rfl rfl 23 (by decide) lk31 (fun _ h9 => h9) rfl dX10_steps_55 ?_
        refine lv_iload_n hx hb dX10_steps_58 rfl (lv_at hl 2 rfl) ?_
        obtain ⟨hin12, hf⟩ := gi_out hf
        refine va_iald hx hb hK hP 8 1 rfl rfl hin12 dX10_steps_59 ?_
        obtain ⟨rfl, rfl⟩ := Prod.mk.inj (Option.some.inj hf)
        exact kr H locs ls 60 dX10_steps_60 hP hS
      · have hf := itF hf c35
        refine lv_bipush (v := (-2)) hx hb dX10_steps_38 (by decide) ?_
        obtain ⟨rfl, rfl⟩ := Prod.mk.inj (Option.some.inj hf)
        exact kr H locs ls 40 dX10_steps_40 hP hS
    · have hf := itT hf c18
      refine lv_iconst (v := (-1)) hx hb dX10_steps_21 (by decide) ?_
      obtain ⟨rfl, rfl⟩ := Prod.mk.inj (Option.some.inj hf)
      exact kr H locs ls 22 dX10_steps_22 hP hS
set_option maxHeartbeats 4000000 in
set_option maxRecDepth 100000 in
theorem c_X10_steps (hj : jR ad) (l : Launch) (x1 : Int32) (x2 : Int32) (f : mM) (t : Int64) (r : Int32) (fR : mM) (hf : q_X10_steps x1 x2 f = some (r, fR)) : Met l yX10_steps wsX10_steps ({ frames := 2, cells := 0, slots := 0, locals := 43 }) (va_Pc ([.ref (ad 0), .int x1, .int x2]) (pre D cy (wR ad cy) (xR) f t)) (va_Qi (fun (r2 : Int32) (u : mM × Int64) => r2 = r ∧ u = (fR, t)) (atW D (wR ad cy)) (aR ad)) 0 0 (aR ad) := by
  refine Met.ofW (cc := cX10_steps) (maxL := 3) (ret := (some .int)) (by decide) rfl ?_
  intro p e s m args below meth c s₁ B hml hv
  obtain ⟨rfl, hP, hK, hX0⟩ := hv
  have hl := lv_entry ([.ref (ad 0), .int x1, .int x2]) (n := 3) (Nat.le_of_ble_eq_true rfl)
  rw [lg_entry_eq]
  generalize (lg_sl ([.ref (ad 0), .int x1, .int x2]) ++ List.replicate (3 - (lg_sl ([.ref (ad 0), .int x1, .int x2])).length) Slot.unset).toArray = ls at hl ⊢
  have hlocks := B.notSynchronized
  exact b_X10_steps ⟨B.exec, B.bytes, B.returns, hml, findClass_of_methodNamed B.named, atoms_spec (ws := wsX10_steps) B.pre, hlocks, hK, hX0⟩ hj ⟨Nat.le_refl _, Nat.le_refl _⟩ x1 x2 f t r fR hf (fun H locs ls pc hd hP hS => W.iret B.exec B.bytes B.returns (fun t2 ht hW => ⟨⟨r, (fR, t), rfl, ⟨rfl, rfl⟩, by show va_P D vwCl _ t2.heap; rw [ht]; exact hP⟩, hS.F ht⟩) hS.2.2 hd) s.heap [] ls hP va_S.rf hl
def lp_X10_days_29 (N : Nat) (x1 : Int32) (x3 : Int32) : Nat → Int32 → Int32 → mM → Option (Int32 × mM)
  | 0, _, _, _ => none
  | n + 1, x2, x4, f => if (f 0 18) ≤ x4 then some (x2, f) else gi (3 * x4) 18 (gi ((3 * x4) + 1) 18 (gi ((3 * x4) + 2) 18 (bi2 (q_X10_firstWay N (f 7 (Int32.toNatClampNeg (3 * x4))) (f 7 (Int32.toNatClampNeg ((3 * x4) + 1))) (f 7 (Int32.toNatClampNeg ((3 * x4) + 2))) f) (fun y7 f8 => if y7 = (-9) then sq (x2 + 1) (fun x2_15 => sq (x4 + 1) (fun x4_16 => lp_X10_days_29 N x1 x3 n x2_15 x4_16 f8)) else gi (3 * x4) 18 (bi2 (q_X10_goesBy N (f8 7 (Int32.toNatClampNeg (3 * x4))) y7 f8) (fun y11 f12 => sq (x4 + 1) (fun x4_14 => lp_X10_days_29 N x1 x3 n x2 x4_14 f12)))))))
theorem lp_X10_days_29_s (N : Nat) (x1 : Int32) (x3 : Int32) (n : Nat) (x2 : Int32) (x4 : Int32) (f : mM) : lp_X10_days_29 N x1 x3 (n + 1) x2 x4 f = (if (f 0 18) ≤ x4 then some (x2, f) else gi (3 * x4) 18 (gi ((3 * x4) + 1) 18 (gi ((3 * x4) + 2) 18 (bi2 (q_X10_firstWay N (f 7 (Int32.toNatClampNeg (3 * x4))) (f 7 (Int32.toNatClampNeg ((3 * x4) + 1))) (f 7 (Int32.toNatClampNeg ((3 * x4) + 2))) f) (fun y7 f8 => if y7 = (-9) then sq (x2 + 1) (fun x2_15 => sq (x4 + 1) (fun x4_16 => lp_X10_days_29 N x1 x3 n x2_15 x4_16 f8)) else gi (3 * x4) 18 (bi2 (q_X10_goesBy N (f8 7 (Int32.toNatClampNeg (3 * x4))) y7 f8) (fun y11 f12 => sq (x4 + 1) (fun x4_14 => lp_X10_days_29 N x1 x3 n x2 x4_14 f12)))))))) := rfl
set_option maxHeartbeats 4000000 in
set_option maxRecDepth 100000 in
theorem lp_X10_days_29_w (C0 : cX p s m args meth c cX10_days 6 (some .int) RX10 wsX10_days D cy (xR)) (hj : jR ad) (hR : 3 ≤ R.frames ∧ 76 ≤ R.locals) (N : Nat) (x1 : Int32) (x3 : Int32) (t : Int64) (r2 : Int32) (fR : mM) (kx110 : ∀ (H : Heap) (locs : List Loc) (ls : Array Slot), va_P D vwCl (wR ad cy fR t) H → va_S (aR ad) s.heap H locs → lv_has ls 6 [(0, .ref (ad 0)), (1, .int x1), (2, .int r2), (3, .int x3)] → W p l e R s m args below meth c H locs 0 0 Q (F0 m 110 ls [])) : ∀ (n : Nat) (x2 : Int32) (x4 : Int32) (f : mM), lp_X10_days_29 N x1 x3 n x2 x4 f = some (r2, fR) → ∀ (H : Heap) (locs : List Loc) (ls : Array Slot), va_P D vwCl (wR ad cy f t) H → va_S (aR ad) s.heap H locs → lv_has ls 6 [(0, .ref (ad 0)), (1, .int x1), (2, .int x2), (3, .int x3), (4, .int x4)] → W p l e R s m args below meth c H locs 0 0 Q (F0 m 29 ls []) := by
  obtain ⟨hx, hb, hr, hml, hown, hts, hlocks, hK, hX0⟩ := id C0
  have lk154 := hts (.fieldLink RX10 154 "PlankNineModel" "errandMany" "I") (List.mem_of_getElem? (i := 2) rfl)
  have hiX10 : ∀ w ∈ u_ws RX10 TX10 34, w ∈ wsX10_days := fun w h => List.mem_cons_of_mem _ (List.mem_append_right _ h)
  have lk28 := hts (.fieldLink RX10 28 "PlankNineModel" "errands" "[I") (List.mem_of_getElem? (i := 3) rfl)
  intro n
  induction n with
  | zero =>
    intro x2 x4 f hf
    exact no_none hf
  | succ n ih =>
    intro x2 x4 f hf H locs ls hP hS hl
    have hf := (lp_X10_days_29_s N x1 x3 n x2 x4 f).symm.trans hf
    refine lv_iload hx hb dX10_days_29 (lv_at hl 4 rfl) ?_
    refine lv_aload_n hx hb dX10_days_31 rfl (lv_at hl 0 rfl) ?_
    refine va_get (D := D) (ci := 10) (v := .int (f 0 18)) (C := RX10) (T := TX10) (N := 34) hx hb hts hiX10 hown hK hP 0 rfl rfl 18 (by decide) lk154 (fun _ h9 => h9) rfl dX10_days_32 ?_
    refine lv_icmp_ge (tgt := 110) hx hb dX10_days_35 (by decide) (fun c35 => ?_) (fun c35 => ?_)
    · have hf := itT hf c35
      have hg_0 := Option.some.inj hf
      obtain ⟨rfl, rfl⟩ := Prod.mk.inj hg_0
      exact kx110 H locs ls hP hS (lv_sub hl [0, 1, 2, 3] rfl)
    · have hf := itF hf c35
      refine lv_aload_n hx hb dX10_days_38 rfl (lv_at hl 0 rfl) ?_
      refine lv_aload_n hx hb dX10_days_39 rfl (lv_at hl 0 rfl) ?_
      refine va_get (D := D) (ci := 10) (v := .ref (ad 7)) (C := RX10) (T := TX10) (N := 34) hx hb hts hiX10 hown hK hP 0 rfl rfl 14 (by decide) lk28 (fun _ h9 => h9) rfl dX10_days_40 ?_
      refine lv_iconst (v := 3) hx hb dX10_days_43 (by decide) ?_
      refine lv_iload hx hb dX10_days_44 (lv_at hl 4 rfl) ?_
      refine lv_imul hx hb dX10_days_46 ?_
      obtain ⟨hin4, hf⟩ := gi_out hf
      refine va_iald hx hb hK hP 7 1 rfl rfl hin4 dX10_days_47 ?_
      refine lv_aload_n hx hb dX10_days_48 rfl (lv_at hl 0 rfl) ?_
      refine va_get (D := D) (ci := 10) (v := .ref (ad 7)) (C := RX10) (T := TX10) (N := 34) hx hb hts hiX10 hown hK hP 0 rfl rfl 14 (by decide) lk28 (fun _ h9 => h9) rfl dX10_days_49 ?_
      refine lv_iconst (v := 3) hx hb dX10_days_52 (by decide) ?_
      refine lv_iload hx hb dX10_days_53 (lv_at hl 4 rfl) ?_
      refine lv_imul hx hb dX10_days_55 ?_
      refine lv_iconst (v := 1) hx hb dX10_days_56 (by decide) ?_
      refine lv_iadd hx hb dX10_days_57 ?_
      obtain ⟨hin5, hf⟩ := gi_out hf
      refine va_iald hx hb hK hP 7 1 rfl rfl hin5 dX10_days_58 ?_
      refine lv_aload_n hx hb dX10_days_59 rfl (lv_at hl 0 rfl) ?_
      refine va_get (D := D) (ci := 10) (v := .ref (ad 7)) (C := RX10) (T := TX10) (N := 34) hx hb hts hiX10 hown hK hP 0 rfl rfl 14 (by decide) lk28 (fun _ h9 => h9) rfl dX10_days_60 ?_
      refine lv_iconst (v := 3) hx hb dX10_days_63 (by decide) ?_
      refine lv_iload hx hb dX10_days_64 (lv_at hl 4 rfl) ?_
      refine lv_imul hx hb dX10_days_66 ?_
      refine lv_iconst (v := 2) hx hb dX10_days_67 (by decide) ?_
      refine lv_iadd hx hb dX10_days_68 ?_
      obtain ⟨hin6, hf⟩ := gi_out hf
      refine va_iald hx hb hK hP 7 1 rfl rfl hin6 dX10_days_69 ?_
      obtain ⟨y7, f8, hq9, hf⟩ := bi2_out hf
      refine cw_vi (As := [.int (f 7 (Int32.toNatClampNeg (3 * x4))), .int (f 7 (Int32.toNatClampNeg ((3 * x4) + 1))), .int (f 7 (Int32.toNatClampNeg ((3 * x4) + 2)))]) (rest := []) ⟨hx, hb, hml, hown, hts⟩ xR_S hK hX0 hS hP (c_X10_firstWay hj l N (f 7 (Int32.toNatClampNeg (3 * x4))) (f 7 (Int32.toNatClampNeg ((3 * x4) + 1))) (f 7 (Int32.toNatClampNeg ((3 * x4) + 2))) f t y7 f8 hq9) (cwV 3 hts gX10_days_X10_firstWay rfl rfl rfl (by decide +kernel) ⟨Nat.le_trans (Nat.le_of_ble_eq_true rfl) hR.1, Nat.le_trans (Nat.le_of_ble_eq_true rfl) hR.2⟩) (va_recv hK hP (ci := 10) (q0 := 0) rfl rfl) rfl hl.1 rfl (Nat.le_of_ble_eq_true rfl) ⟨Nat.zero_le _, Nat.zero_le _⟩ dX10_days_70 (fun H locs hP hS => ?_)
      refine lv_istore (lv' := [(5, .int y7), (0, .ref (ad 0)), (1, .int x1), (2, .int x2), (3, .int x3), (4, .int x4)]) hx hb dX10_days_73 hl (by decide) rfl (fun ls hl => ?_)
      refine lv_iload hx hb dX10_days_75 (lv_at hl 0 rfl) ?_
      refine lv_bipush (v := (-9)) hx hb dX10_days_77 (by decide) ?_
      refine lv_icmp_ne (tgt := 88) hx hb dX10_days_79 (by decide) (fun c79 => ?_) (fun c79 => ?_)
      · have hf := itF hf c79
        refine lv_aload_n hx hb dX10_days_88 rfl (lv_at hl 1 rfl) ?_
        refine lv_aload_n hx hb dX10_days_89 rfl (lv_at hl 1 rfl) ?_
        refine va_get (D := D) (ci := 10) (v := .ref (ad 7)) (C := RX10) (T := TX10) (N := 34) hx hb hts hiX10 hown hK hP 0 rfl rfl 14 (by decide) lk28 (fun _ h9 => h9) rfl dX10_days_90 ?_
        refine lv_iconst (v := 3) hx hb dX10_days_93 (by decide) ?_
        refine lv_iload hx hb dX10_days_94 (lv_at hl 5 rfl) ?_
        refine lv_imul hx hb dX10_days_96 ?_
        obtain ⟨hin10, hf⟩ := gi_out hf
        refine va_iald hx hb hK hP 7 1 rfl rfl hin10 dX10_days_97 ?_
        refine lv_iload hx hb dX10_days_98 (lv_at hl 0 rfl) ?_
        obtain ⟨y11, f12, hq13, hf⟩ := bi2_out hf
        refine cw_vi (As := [.int (f8 7 (Int32.toNatClampNeg (3 * x4))), .int y7]) (rest := []) ⟨hx, hb, hml, hown, hts⟩ xR_S hK hX0 hS hP (c_X10_goesBy hj l N (f8 7 (Int32.toNatClampNeg (3 * x4))) y7 f8 t y11 f12 hq13) (cwV 2 hts gX10_days_X10_goesBy rfl rfl rfl (by decide +kernel) ⟨Nat.le_trans (Nat.le_of_ble_eq_true rfl) hR.1, Nat.le_trans (Nat.le_of_ble_eq_true rfl) hR.2⟩) (va_recv hK hP (ci := 10) (q0 := 0) rfl rfl) rfl hl.1 rfl (Nat.le_of_ble_eq_true rfl) ⟨Nat.zero_le _, Nat.zero_le _⟩ dX10_days_100 (fun H locs hP hS => ?_)
        refine lv_pop hx hb dX10_days_103 rfl ?_
        obtain ⟨x4_14, ex4_14, hf⟩ := sq_out hf
        refine lv_iinc (v := x4_14) (lv' := [(4, .int x4_14), (5, .int y7), (0, .ref (ad 0)), (1, .int x1), (2, .int x2), (3, .int x3)]) hx hb dX10_days_104 hl (k := 5) rfl (by rw [ex4_14]; rfl) (by decide) rfl (fun ls hl => ?_)
        refine lv_goto (tgt := 29) hx hb dX10_days_107 (by decide) ?_
        exact ih x2 x4_14 f12 hf H locs ls hP hS (lv_sub hl [2, 3, 4, 5, 0] rfl)
      · have hf := itT hf c79
        obtain ⟨x2_15, ex2_15, hf⟩ := sq_out hf
        refine lv_iinc (v := x2_15) (lv' := [(2, .int x2_15), (5, .int y7), (0, .ref (ad 0)), (1, .int x1), (3, .int x3), (4, .int x4)]) hx hb dX10_days_82 hl (k := 3) rfl (by rw [ex2_15]; rfl) (by decide) rfl (fun ls hl => ?_)
        refine lv_goto (tgt := 104) hx hb dX10_days_85 (by decide) ?_
        obtain ⟨x4_16, ex4_16, hf⟩ := sq_out hf
        refine lv_iinc (v := x4_16) (lv' := [(4, .int x4_16), (2, .int x2_15), (5, .int y7), (0, .ref (ad 0)), (1, .int x1), (3, .int x3)]) hx hb dX10_days_104 hl (k := 5) rfl (by rw [ex4_16]; rfl) (by decide) rfl (fun ls hl => ?_)
        refine lv_goto (tgt := 29) hx hb dX10_days_107 (by decide) ?_
        exact ih x2_15 x4_16 f8 hf H locs ls hP hS (lv_sub hl [3, 4, 1, 5, 0] rfl)
def lp_X10_days_21 (N : Nat) (x1 : Int32) : Nat → Int32 → Int32 → mM → Option (Int32 × mM)
  | 0, _, _, _ => none
  | n + 1, x2, x3, f => if x1 ≤ x3 then some (x2, f) else bi2 (lp_X10_days_29 N x1 x3 N x2 0 f) (fun y17 f18 => sq (x3 + 1) (fun x3_20 => lp_X10_days_21 N x1 n y17 x3_20 f18))
theorem lp_X10_days_21_s (N : Nat) (x1 : Int32) (n : Nat) (x2 : Int32) (x3 : Int32) (f : mM) : lp_X10_days_21 N x1 (n + 1) x2 x3 f = (if x1 ≤ x3 then some (x2, f) else bi2 (lp_X10_days_29 N x1 x3 N x2 0 f) (fun y17 f18 => sq (x3 + 1) (fun x3_20 => lp_X10_days_21 N x1 n y17 x3_20 f18))) := rfl
set_option maxHeartbeats 4000000 in
set_option maxRecDepth 100000 in
theorem lp_X10_days_21_w (C0 : cX p s m args meth c cX10_days 6 (some .int) RX10 wsX10_days D cy (xR)) (hj : jR ad) (hR : 3 ≤ R.frames ∧ 76 ≤ R.locals) (N : Nat) (x1 : Int32) (t : Int64) (r2 : Int32) (fR : mM) (kx116 : ∀ (H : Heap) (locs : List Loc) (ls : Array Slot), va_P D vwCl (wR ad cy fR t) H → va_S (aR ad) s.heap H locs → lv_has ls 6 [(2, .int r2)] → W p l e R s m args below meth c H locs 0 0 Q (F0 m 116 ls [])) : ∀ (n : Nat) (x2 : Int32) (x3 : Int32) (f : mM), lp_X10_days_21 N x1 n x2 x3 f = some (r2, fR) → ∀ (H : Heap) (locs : List Loc) (ls : Array Slot), va_P D vwCl (wR ad cy f t) H → va_S (aR ad) s.heap H locs → lv_has ls 6 [(0, .ref (ad 0)), (1, .int x1), (2, .int x2), (3, .int x3)] → W p l e R s m args below meth c H locs 0 0 Q (F0 m 21 ls []) := by
  obtain ⟨hx, hb, hr, hml, hown, hts, hlocks, hK, hX0⟩ := id C0
  intro n
  induction n with
  | zero =>
    intro x2 x3 f hf
    exact no_none hf
  | succ n ih =>
    intro x2 x3 f hf H locs ls hP hS hl
    have hf := (lp_X10_days_21_s N x1 n x2 x3 f).symm.trans hf
    refine lv_iload_n hx hb dX10_days_21 rfl (lv_at hl 3 rfl) ?_
    refine lv_iload_n hx hb dX10_days_22 rfl (lv_at hl 1 rfl) ?_
    refine lv_icmp_ge (tgt := 116) hx hb dX10_days_23 (by decide) (fun c23 => ?_) (fun c23 => ?_)
    · have hf := itT hf c23
      have hg_0 := Option.some.inj hf
      obtain ⟨rfl, rfl⟩ := Prod.mk.inj hg_0
      exact kx116 H locs ls hP hS (lv_sub hl [2] rfl)
    · have hf := itF hf c23
      refine lv_iconst (v := 0) hx hb dX10_days_26 (by decide) ?_
      refine lv_istore (lv' := [(4, .int 0), (0, .ref (ad 0)), (1, .int x1), (2, .int x2), (3, .int x3)]) hx hb dX10_days_27 hl (by decide) rfl (fun ls hl => ?_)
      obtain ⟨y17, f18, hlp19, hf⟩ := bi2_out hf
      refine lp_X10_days_29_w C0 hj hR N x1 x3 t y17 f18 ?_ N x2 0 f hlp19 H locs ls hP hS (lv_sub hl [1, 2, 3, 4, 0] rfl)
      intro H locs ls hP hS hl
      obtain ⟨x3_20, ex3_20, hf⟩ := sq_out hf
      refine lv_iinc (v := x3_20) (lv' := [(3, .int x3_20), (0, .ref (ad 0)), (1, .int x1), (2, .int y17)]) hx hb dX10_days_110 hl (k := 3) rfl (by rw [ex3_20]; rfl) (by decide) rfl (fun ls hl => ?_)
      refine lv_goto (tgt := 21) hx hb dX10_days_113 (by decide) ?_
      exact ih y17 x3_20 f18 hf H locs ls hP hS (lv_sub hl [1, 2, 3, 0] rfl)
def q_X10_days (N : Nat) (x1 : Int32) (f : mM) : Option (Int32 × mM) := sq (st2 f 0 0 0) (fun f1 => bi (q_X10_in x1 1 9) (fun y2 => if y2 = 0 then some ((-1), f1) else bi2 (lp_X10_days_21 N x1 N 0 0 f1) (fun y21 f22 => some (y21, f22))))
set_option maxHeartbeats 4000000 in
set_option maxRecDepth 100000 in
theorem b_X10_days (C0 : cX p s m args meth c cX10_days 6 (some .int) RX10 wsX10_days D cy (xR)) (hj : jR ad) (hR : 3 ≤ R.frames ∧ 76 ≤ R.locals) (N : Nat) (x1 : Int32) (f : mM) (t : Int64) (r : Int32) (fR : mM) (hf : q_X10_days N x1 f = some (r, fR)) (kr : ∀ (H : Heap) (locs : List Loc) (ls : Array Slot) (pc : Nat), decode cX10_days pc = .ok (.ireturn, 1) → va_P D vwCl (wR ad cy fR t) H → va_S (aR ad) s.heap H locs → W p l e R s m args below meth c H locs 0 0 Q (F0 m pc ls [.int r])) (H : Heap) (locs : List Loc) (ls : Array Slot) (hP : va_P D vwCl (wR ad cy f t) H) (hS : va_S (aR ad) s.heap H locs) (hl : lv_has ls 6 [(0, .ref (ad 0)), (1, .int x1)]) : W p l e R s m args below meth c H locs 0 0 Q (F0 m 0 ls []) := by
  obtain ⟨hx, hb, hr, hml, hown, hts, hlocks, hK, hX0⟩ := id C0
  have lk69 := hts (.fieldLink RX10 69 "PlankNineModel" "thrown" "I") (List.mem_of_getElem? (i := 1) rfl)
  have hiX10 : ∀ w ∈ u_ws RX10 TX10 34, w ∈ wsX10_days := fun w h => List.mem_cons_of_mem _ (List.mem_append_right _ h)
  unfold q_X10_days at hf
  refine lv_aload_n hx hb dX10_days_0 rfl (lv_at hl 0 rfl) ?_
  refine lv_iconst (v := 0) hx hb dX10_days_1 (by decide) ?_
  obtain ⟨f1, ef1, hf⟩ := sq_out hf
  refine va_put (D := D) (ci := 10) (v := .int 0) (ty := .int) (C := RX10) (T := TX10) (N := 34) hx hb hts hiX10 tyX10 tyX10_ok nmX10 hown hK hP (dR hj f t) hS 0 rfl rfl 0 (by decide) lk69 (fun _ h9 => h9) rfl (by decide +kernel) rfl rfl (Nat.le_of_ble_eq_true rfl) dX10_days_2 (fun H locs hP _ hS => ?_)
  have hP := sR_0_0 ef1 hP
  refine lv_iload_n hx hb dX10_days_5 rfl (lv_at hl 1 rfl) ?_
  refine lv_iconst (v := 1) hx hb dX10_days_6 (by decide) ?_
  refine lv_bipush (v := 9) hx hb dX10_days_7 (by decide) ?_
  obtain ⟨y2, hq3, hf⟩ := bi_out hf
  refine cw_si (As := [.int x1, .int 1, .int 9]) (rest := []) ⟨hx, hb, hml, hown, hts⟩ xR_S hK hX0 hS hP (c_X10_in hj l x1 1 9 f1 t y2 hq3) (va_cwS 3 hts gX10_days_X10_in rfl rfl rfl (by decide +kernel) ⟨Nat.le_trans (Nat.le_of_ble_eq_true rfl) hR.1, Nat.le_trans (Nat.le_of_ble_eq_true rfl) hR.2⟩) rfl hl.1 rfl (Nat.le_of_ble_eq_true rfl) ⟨Nat.zero_le _, Nat.zero_le _⟩ dX10_days_9 (fun H locs hP hS => ?_)
  refine lv_if_ne (tgt := 17) hx hb dX10_days_12 (by decide) (fun c12 => ?_) (fun c12 => ?_)
  · have hf := itF hf c12
    refine lv_iconst (v := 0) hx hb dX10_days_17 (by decide) ?_
    refine lv_istore_n (lv' := [(2, .int 0), (0, .ref (ad 0)), (1, .int x1)]) hx hb dX10_days_18 rfl hl (by decide) rfl (fun ls hl => ?_)
    refine lv_iconst (v := 0) hx hb dX10_days_19 (by decide) ?_
    refine lv_istore_n (lv' := [(3, .int 0), (2, .int 0), (0, .ref (ad 0)), (1, .int x1)]) hx hb dX10_days_20 rfl hl (by decide) rfl (fun ls hl => ?_)
    obtain ⟨y21, f22, hlp23, hf⟩ := bi2_out hf
    refine lp_X10_days_21_w C0 hj hR N x1 t y21 f22 ?_ N 0 0 f1 hlp23 H locs ls hP hS (lv_sub hl [2, 3, 1, 0] rfl)
    intro H locs ls hP hS hl
    refine lv_iload_n hx hb dX10_days_116 rfl (lv_at hl 0 rfl) ?_
    obtain ⟨rfl, rfl⟩ := Prod.mk.inj (Option.some.inj hf)
    exact kr H locs ls 117 dX10_days_117 hP hS
  · have hf := itT hf c12
    refine lv_iconst (v := (-1)) hx hb dX10_days_15 (by decide) ?_
    obtain ⟨rfl, rfl⟩ := Prod.mk.inj (Option.some.inj hf)
    exact kr H locs ls 16 dX10_days_16 hP hS
set_option maxHeartbeats 4000000 in
set_option maxRecDepth 100000 in
theorem c_X10_days (hj : jR ad) (l : Launch) (N : Nat) (x1 : Int32) (f : mM) (t : Int64) (r : Int32) (fR : mM) (hf : q_X10_days N x1 f = some (r, fR)) : Met l yX10_days wsX10_days ({ frames := 3, cells := 0, slots := 0, locals := 76 }) (va_Pc ([.ref (ad 0), .int x1]) (pre D cy (wR ad cy) (xR) f t)) (va_Qi (fun (r2 : Int32) (u : mM × Int64) => r2 = r ∧ u = (fR, t)) (atW D (wR ad cy)) (aR ad)) 0 0 (aR ad) := by
  refine Met.ofW (cc := cX10_days) (maxL := 6) (ret := (some .int)) (by decide) rfl ?_
  intro p e s m args below meth c s₁ B hml hv
  obtain ⟨rfl, hP, hK, hX0⟩ := hv
  have hl := lv_entry ([.ref (ad 0), .int x1]) (n := 6) (Nat.le_of_ble_eq_true rfl)
  rw [lg_entry_eq]
  generalize (lg_sl ([.ref (ad 0), .int x1]) ++ List.replicate (6 - (lg_sl ([.ref (ad 0), .int x1])).length) Slot.unset).toArray = ls at hl ⊢
  have hlocks := B.notSynchronized
  exact b_X10_days ⟨B.exec, B.bytes, B.returns, hml, findClass_of_methodNamed B.named, atoms_spec (ws := wsX10_days) B.pre, hlocks, hK, hX0⟩ hj ⟨Nat.le_refl _, Nat.le_refl _⟩ N x1 f t r fR hf (fun H locs ls pc hd hP hS => W.iret B.exec B.bytes B.returns (fun t2 ht hW => ⟨⟨r, (fR, t), rfl, ⟨rfl, rfl⟩, by show va_P D vwCl _ t2.heap; rw [ht]; exact hP⟩, hS.F ht⟩) hS.2.2 hd) s.heap [] ls hP va_S.rf hl
def q_X10_went (x1 : Int32) (x2 : Int32) (f : mM) : Option (Int32 × mM) := sq (st2 f 0 0 0) (fun f1 => if x1 < 0 then some ((-1), f1) else bi (q_X10_in x2 0 1) (fun y2 => if y2 = 0 then some ((-1), f1) else gi 9 50 (if (f1 8 (Int32.toNatClampNeg 9)) ≤ x1 then some ((-5), f1) else gi ((10 + (2 * x1)) + x2) 50 (some ((f1 8 (Int32.toNatClampNeg ((10 + (2 * x1)) + x2))), f1)))))
set_option maxHeartbeats 4000000 in
set_option maxRecDepth 100000 in
theorem b_X10_went (C0 : cX p s m args meth c cX10_went 3 (some .int) RX10 wsX10_went D cy (xR)) (hj : jR ad) (hR : 1 ≤ R.frames ∧ 22 ≤ R.locals) (x1 : Int32) (x2 : Int32) (f : mM) (t : Int64) (r : Int32) (fR : mM) (hf : q_X10_went x1 x2 f = some (r, fR)) (kr : ∀ (H : Heap) (locs : List Loc) (ls : Array Slot) (pc : Nat), decode cX10_went pc = .ok (.ireturn, 1) → va_P D vwCl (wR ad cy fR t) H → va_S (aR ad) s.heap H locs → W p l e R s m args below meth c H locs 0 0 Q (F0 m pc ls [.int r])) (H : Heap) (locs : List Loc) (ls : Array Slot) (hP : va_P D vwCl (wR ad cy f t) H) (hS : va_S (aR ad) s.heap H locs) (hl : lv_has ls 3 [(0, .ref (ad 0)), (1, .int x1), (2, .int x2)]) : W p l e R s m args below meth c H locs 0 0 Q (F0 m 0 ls []) := by
  obtain ⟨hx, hb, hr, hml, hown, hts, hlocks, hK, hX0⟩ := id C0
  have lk69 := hts (.fieldLink RX10 69 "PlankNineModel" "thrown" "I") (List.mem_of_getElem? (i := 1) rfl)
  have hiX10 : ∀ w ∈ u_ws RX10 TX10 34, w ∈ wsX10_went := fun w h => List.mem_cons_of_mem _ (List.mem_append_right _ h)
  have lk31 := hts (.fieldLink RX10 31 "PlankNineModel" "s" "[I") (List.mem_of_getElem? (i := 2) rfl)
  unfold q_X10_went at hf
  refine lv_aload_n hx hb dX10_went_0 rfl (lv_at hl 0 rfl) ?_
  refine lv_iconst (v := 0) hx hb dX10_went_1 (by decide) ?_
  obtain ⟨f1, ef1, hf⟩ := sq_out hf
  refine va_put (D := D) (ci := 10) (v := .int 0) (ty := .int) (C := RX10) (T := TX10) (N := 34) hx hb hts hiX10 tyX10 tyX10_ok nmX10 hown hK hP (dR hj f t) hS 0 rfl rfl 0 (by decide) lk69 (fun _ h9 => h9) rfl (by decide +kernel) rfl rfl (Nat.le_of_ble_eq_true rfl) dX10_went_2 (fun H locs hP _ hS => ?_)
  have hP := sR_0_0 ef1 hP
  refine lv_iload_n hx hb dX10_went_5 rfl (lv_at hl 1 rfl) ?_
  refine lv_if_lt (tgt := 18) hx hb dX10_went_6 (by decide) (fun c6 => ?_) (fun c6 => ?_)
  · have hf := itT hf c6
    refine lv_iconst (v := (-1)) hx hb dX10_went_18 (by decide) ?_
    obtain ⟨rfl, rfl⟩ := Prod.mk.inj (Option.some.inj hf)
    exact kr H locs ls 19 dX10_went_19 hP hS
  · have hf := itF hf c6
    refine lv_iload_n hx hb dX10_went_9 rfl (lv_at hl 2 rfl) ?_
    refine lv_iconst (v := 0) hx hb dX10_went_10 (by decide) ?_
    refine lv_iconst (v := 1) hx hb dX10_went_11 (by decide) ?_
    obtain ⟨y2, hq3, hf⟩ := bi_out hf
    refine cw_si (As := [.int x2, .int 0, .int 1]) (rest := []) ⟨hx, hb, hml, hown, hts⟩ xR_S hK hX0 hS hP (c_X10_in hj l x2 0 1 f1 t y2 hq3) (va_cwS 3 hts gX10_went_X10_in rfl rfl rfl (by decide +kernel) ⟨Nat.le_trans (Nat.le_of_ble_eq_true rfl) hR.1, Nat.le_trans (Nat.le_of_ble_eq_true rfl) hR.2⟩) rfl hl.1 rfl (Nat.le_of_ble_eq_true rfl) ⟨Nat.zero_le _, Nat.zero_le _⟩ dX10_went_12 (fun H locs hP hS => ?_)
    refine lv_if_ne (tgt := 20) hx hb dX10_went_15 (by decide) (fun c15 => ?_) (fun c15 => ?_)
    · have hf := itF hf c15
      refine lv_iload_n hx hb dX10_went_20 rfl (lv_at hl 1 rfl) ?_
      refine lv_aload_n hx hb dX10_went_21 rfl (lv_at hl 0 rfl) ?_
      refine va_get (D := D) (ci := 10) (v := .ref (ad 8)) (C := RX10) (T := TX10) (N := 34) hx hb hts hiX10 hown hK hP 0 rfl rfl 23 (by decide) lk31 (fun _ h9 => h9) rfl dX10_went_22 ?_
      refine lv_bipush (v := 9) hx hb dX10_went_25 (by decide) ?_
      obtain ⟨hin4, hf⟩ := gi_out hf
      refine va_iald hx hb hK hP 8 1 rfl rfl hin4 dX10_went_27 ?_
      refine lv_icmp_ge (tgt := 47) hx hb dX10_went_28 (by decide) (fun c28 => ?_) (fun c28 => ?_)
      · have hf := itT hf c28
        refine lv_bipush (v := (-5)) hx hb dX10_went_47 (by decide) ?_
        obtain ⟨rfl, rfl⟩ := Prod.mk.inj (Option.some.inj hf)
        exact kr H locs ls 49 dX10_went_49 hP hS
      · have hf := itF hf c28
        refine lv_aload_n hx hb dX10_went_31 rfl (lv_at hl 0 rfl) ?_
        refine va_get (D := D) (ci := 10) (v := .ref (ad 8)) (C := RX10) (T := TX10) (N := 34) hx hb hts hiX10 hown hK hP 0 rfl rfl 23 (by decide) lk31 (fun _ h9 => h9) rfl dX10_went_32 ?_
        refine lv_bipush (v := 10) hx hb dX10_went_35 (by decide) ?_
        refine lv_iconst (v := 2) hx hb dX10_went_37 (by decide) ?_
        refine lv_iload_n hx hb dX10_went_38 rfl (lv_at hl 1 rfl) ?_
        refine lv_imul hx hb dX10_went_39 ?_
        refine lv_iadd hx hb dX10_went_40 ?_
        refine lv_iload_n hx hb dX10_went_41 rfl (lv_at hl 2 rfl) ?_
        refine lv_iadd hx hb dX10_went_42 ?_
        obtain ⟨hin5, hf⟩ := gi_out hf
        refine va_iald hx hb hK hP 8 1 rfl rfl hin5 dX10_went_43 ?_
        refine lv_goto (tgt := 49) hx hb dX10_went_44 (by decide) ?_
        obtain ⟨rfl, rfl⟩ := Prod.mk.inj (Option.some.inj hf)
        exact kr H locs ls 49 dX10_went_49 hP hS
    · have hf := itT hf c15
      refine lv_iconst (v := (-1)) hx hb dX10_went_18 (by decide) ?_
      obtain ⟨rfl, rfl⟩ := Prod.mk.inj (Option.some.inj hf)
      exact kr H locs ls 19 dX10_went_19 hP hS
set_option maxHeartbeats 4000000 in
set_option maxRecDepth 100000 in
theorem c_X10_went (hj : jR ad) (l : Launch) (x1 : Int32) (x2 : Int32) (f : mM) (t : Int64) (r : Int32) (fR : mM) (hf : q_X10_went x1 x2 f = some (r, fR)) : Met l yX10_went wsX10_went ({ frames := 1, cells := 0, slots := 0, locals := 22 }) (va_Pc ([.ref (ad 0), .int x1, .int x2]) (pre D cy (wR ad cy) (xR) f t)) (va_Qi (fun (r2 : Int32) (u : mM × Int64) => r2 = r ∧ u = (fR, t)) (atW D (wR ad cy)) (aR ad)) 0 0 (aR ad) := by
  refine Met.ofW (cc := cX10_went) (maxL := 3) (ret := (some .int)) (by decide) rfl ?_
  intro p e s m args below meth c s₁ B hml hv
  obtain ⟨rfl, hP, hK, hX0⟩ := hv
  have hl := lv_entry ([.ref (ad 0), .int x1, .int x2]) (n := 3) (Nat.le_of_ble_eq_true rfl)
  rw [lg_entry_eq]
  generalize (lg_sl ([.ref (ad 0), .int x1, .int x2]) ++ List.replicate (3 - (lg_sl ([.ref (ad 0), .int x1, .int x2])).length) Slot.unset).toArray = ls at hl ⊢
  have hlocks := B.notSynchronized
  exact b_X10_went ⟨B.exec, B.bytes, B.returns, hml, findClass_of_methodNamed B.named, atoms_spec (ws := wsX10_went) B.pre, hlocks, hK, hX0⟩ hj ⟨Nat.le_refl _, Nat.le_refl _⟩ x1 x2 f t r fR hf (fun H locs ls pc hd hP hS => W.iret B.exec B.bytes B.returns (fun t2 ht hW => ⟨⟨r, (fR, t), rfl, ⟨rfl, rfl⟩, by show va_P D vwCl _ t2.heap; rw [ht]; exact hP⟩, hS.F ht⟩) hS.2.2 hd) s.heap [] ls hP va_S.rf hl
def lp_X10_frost_9 (N : Nat)  : Nat → Int32 → Int32 → mM → Option (Int32 × mM)
  | 0, _, _, _ => none
  | n + 1, x1, x2, f => if (f 0 16) ≤ x2 then some (x1, f) else gi x2 50 (bi (q_X10_in (f 8 (Int32.toNatClampNeg x2)) 1 8) (fun y3 => gi x2 50 (sq (fun (v6 : Int32) => gi x2 50 (sq (st2 f 8 (Int32.toNatClampNeg x2) ((f 8 (Int32.toNatClampNeg x2)) + v6)) (fun f9 => sq (fun (v10 : Int32) => sq (x1 + v10) (fun x1_12 => sq (x2 + 1) (fun x2_13 => lp_X10_frost_9 N n x1_12 x2_13 f9))) (fun k11 => if y3 = 0 then k11 0 else k11 1)))) (fun k7 => if y3 = 0 then k7 0 else k7 1))))
theorem lp_X10_frost_9_s (N : Nat)  (n : Nat) (x1 : Int32) (x2 : Int32) (f : mM) : lp_X10_frost_9 N (n + 1) x1 x2 f = (if (f 0 16) ≤ x2 then some (x1, f) else gi x2 50 (bi (q_X10_in (f 8 (Int32.toNatClampNeg x2)) 1 8) (fun y3 => gi x2 50 (sq (fun (v6 : Int32) => gi x2 50 (sq (st2 f 8 (Int32.toNatClampNeg x2) ((f 8 (Int32.toNatClampNeg x2)) + v6)) (fun f9 => sq (fun (v10 : Int32) => sq (x1 + v10) (fun x1_12 => sq (x2 + 1) (fun x2_13 => lp_X10_frost_9 N n x1_12 x2_13 f9))) (fun k11 => if y3 = 0 then k11 0 else k11 1)))) (fun k7 => if y3 = 0 then k7 0 else k7 1))))) := rfl
set_option maxHeartbeats 4000000 in
set_option maxRecDepth 100000 in
theorem lp_X10_frost_9_w (C0 : cX p s m args meth c cX10_frost 4 (some .int) RX10 wsX10_frost D cy (xR)) (hj : jR ad) (hR : 1 ≤ R.frames ∧ 22 ≤ R.locals) (N : Nat)  (t : Int64) (r1 : Int32) (fR : mM) (kx66 : ∀ (H : Heap) (locs : List Loc) (ls : Array Slot), va_P D vwCl (wR ad cy fR t) H → va_S (aR ad) s.heap H locs → lv_has ls 4 [(1, .int r1)] → W p l e R s m args below meth c H locs 0 0 Q (F0 m 66 ls [])) : ∀ (n : Nat) (x1 : Int32) (x2 : Int32) (f : mM), lp_X10_frost_9 N n x1 x2 f = some (r1, fR) → ∀ (H : Heap) (locs : List Loc) (ls : Array Slot), va_P D vwCl (wR ad cy f t) H → va_S (aR ad) s.heap H locs → lv_has ls 4 [(0, .ref (ad 0)), (1, .int x1), (2, .int x2)] → W p l e R s m args below meth c H locs 0 0 Q (F0 m 9 ls []) := by
  obtain ⟨hx, hb, hr, hml, hown, hts, hlocks, hK, hX0⟩ := id C0
  have lk148 := hts (.fieldLink RX10 148 "PlankNineModel" "planks" "I") (List.mem_of_getElem? (i := 2) rfl)
  have hiX10 : ∀ w ∈ u_ws RX10 TX10 34, w ∈ wsX10_frost := fun w h => List.mem_cons_of_mem _ (List.mem_append_right _ h)
  have lk31 := hts (.fieldLink RX10 31 "PlankNineModel" "s" "[I") (List.mem_of_getElem? (i := 3) rfl)
  intro n
  induction n with
  | zero =>
    intro x1 x2 f hf
    exact no_none hf
  | succ n ih =>
    intro x1 x2 f hf H locs ls hP hS hl
    have hf := (lp_X10_frost_9_s N n x1 x2 f).symm.trans hf
    refine lv_iload_n hx hb dX10_frost_9 rfl (lv_at hl 2 rfl) ?_
    refine lv_aload_n hx hb dX10_frost_10 rfl (lv_at hl 0 rfl) ?_
    refine va_get (D := D) (ci := 10) (v := .int (f 0 16)) (C := RX10) (T := TX10) (N := 34) hx hb hts hiX10 hown hK hP 0 rfl rfl 16 (by decide) lk148 (fun _ h9 => h9) rfl dX10_frost_11 ?_
    refine lv_icmp_ge (tgt := 66) hx hb dX10_frost_14 (by decide) (fun c14 => ?_) (fun c14 => ?_)
    · have hf := itT hf c14
      have hg_0 := Option.some.inj hf
      obtain ⟨rfl, rfl⟩ := Prod.mk.inj hg_0
      exact kx66 H locs ls hP hS (lv_sub hl [1] rfl)
    · have hf := itF hf c14
      refine lv_aload_n hx hb dX10_frost_17 rfl (lv_at hl 0 rfl) ?_
      refine va_get (D := D) (ci := 10) (v := .ref (ad 8)) (C := RX10) (T := TX10) (N := 34) hx hb hts hiX10 hown hK hP 0 rfl rfl 23 (by decide) lk31 (fun _ h9 => h9) rfl dX10_frost_18 ?_
      refine lv_iload_n hx hb dX10_frost_21 rfl (lv_at hl 2 rfl) ?_
      obtain ⟨hin2, hf⟩ := gi_out hf
      refine va_iald hx hb hK hP 8 1 rfl rfl hin2 dX10_frost_22 ?_
      refine lv_iconst (v := 1) hx hb dX10_frost_23 (by decide) ?_
      refine lv_bipush (v := 8) hx hb dX10_frost_24 (by decide) ?_
      obtain ⟨y3, hq4, hf⟩ := bi_out hf
      refine cw_si (As := [.int (f 8 (Int32.toNatClampNeg x2)), .int 1, .int 8]) (rest := []) ⟨hx, hb, hml, hown, hts⟩ xR_S hK hX0 hS hP (c_X10_in hj l (f 8 (Int32.toNatClampNeg x2)) 1 8 f t y3 hq4) (va_cwS 3 hts gX10_frost_X10_in rfl rfl rfl (by decide +kernel) ⟨Nat.le_trans (Nat.le_of_ble_eq_true rfl) hR.1, Nat.le_trans (Nat.le_of_ble_eq_true rfl) hR.2⟩) rfl hl.1 rfl (Nat.le_of_ble_eq_true rfl) ⟨Nat.zero_le _, Nat.zero_le _⟩ dX10_frost_26 (fun H locs hP hS => ?_)
      refine lv_istore_n (lv' := [(3, .int y3), (0, .ref (ad 0)), (1, .int x1), (2, .int x2)]) hx hb dX10_frost_29 rfl hl (by decide) rfl (fun ls hl => ?_)
      refine lv_aload_n hx hb dX10_frost_30 rfl (lv_at hl 1 rfl) ?_
      refine va_get (D := D) (ci := 10) (v := .ref (ad 8)) (C := RX10) (T := TX10) (N := 34) hx hb hts hiX10 hown hK hP 0 rfl rfl 23 (by decide) lk31 (fun _ h9 => h9) rfl dX10_frost_31 ?_
      refine lv_iload_n hx hb dX10_frost_34 rfl (lv_at hl 3 rfl) ?_
      refine lv_dup2_11 hx hb dX10_frost_35 rfl rfl ?_
      obtain ⟨hin5, hf⟩ := gi_out hf
      refine va_iald hx hb hK hP 8 1 rfl rfl hin5 dX10_frost_36 ?_
      refine lv_iload_n hx hb dX10_frost_37 rfl (lv_at hl 0 rfl) ?_
      obtain ⟨k7, ek7, hf⟩ := sq_out hf
      have hk7 : ∀ (v6 : Int32), k7 v6 = some (r1, fR) → ∀ (H : Heap) (locs : List Loc) (ls : Array Slot), va_P D vwCl (wR ad cy f t) H → va_S (aR ad) s.heap H locs → lv_has ls 4 [(0, .ref (ad 0)), (1, .int x1), (2, .int x2), (3, .int y3)] → W p l e R s m args below meth c H locs 0 0 Q (F0 m 46 ls [.int v6, .int (f 8 (Int32.toNatClampNeg x2)), .int x2, .ref (ad 8)]) := by
        intro v6 hf H locs ls hP hS hl
        have hf := sk1 ek7 v6 hf
        refine lv_iadd hx hb dX10_frost_46 ?_
        obtain ⟨hin8, hf⟩ := gi_out hf
        obtain ⟨f9, ef9, hf⟩ := sq_out hf
        refine va_iast hx hb hK hP (dR hj f t) hS 8 1 rfl rfl hin8 dX10_frost_47 (fun H locs hP _ hS => ?_)
        have hP := sR_8 ef9 hP
        refine lv_iload_n hx hb dX10_frost_48 rfl (lv_at hl 1 rfl) ?_
        refine lv_iload_n hx hb dX10_frost_49 rfl (lv_at hl 3 rfl) ?_
        obtain ⟨k11, ek11, hf⟩ := sq_out hf
        have hk11 : ∀ (v10 : Int32), k11 v10 = some (r1, fR) → ∀ (H : Heap) (locs : List Loc) (ls : Array Slot), va_P D vwCl (wR ad cy f9 t) H → va_S (aR ad) s.heap H locs → lv_has ls 4 [(0, .ref (ad 0)), (2, .int x2)] → W p l e R s m args below meth c H locs 0 0 Q (F0 m 58 ls [.int v10, .int x1]) := by
          intro v10 hf H locs ls hP hS hl
          have hf := sk1 ek11 v10 hf
          refine lv_iadd hx hb dX10_frost_58 ?_
          obtain ⟨x1_12, ex1_12, hf⟩ := sq_out hf
          refine lv_nmi ex1_12 ?_
          refine lv_istore_n (lv' := [(1, .int x1_12), (0, .ref (ad 0)), (2, .int x2)]) hx hb dX10_frost_59 rfl hl (by decide) rfl (fun ls hl => ?_)
          obtain ⟨x2_13, ex2_13, hf⟩ := sq_out hf
          refine lv_iinc (v := x2_13) (lv' := [(2, .int x2_13), (1, .int x1_12), (0, .ref (ad 0))]) hx hb dX10_frost_60 hl (k := 2) rfl (by rw [ex2_13]; rfl) (by decide) rfl (fun ls hl => ?_)
          refine lv_goto (tgt := 9) hx hb dX10_frost_63 (by decide) ?_
          exact ih x1_12 x2_13 f9 hf H locs ls hP hS (lv_sub hl [2, 1, 0] rfl)
        refine lv_if_eq (tgt := 57) hx hb dX10_frost_50 (by decide) (fun c50 => ?_) (fun c50 => ?_)
        · have hf := itT hf c50
          refine lv_iconst (v := 0) hx hb dX10_frost_57 (by decide) ?_
          exact hk11 0 hf H locs ls hP hS (lv_sub hl [0, 2] rfl)
        · have hf := itF hf c50
          refine lv_iconst (v := 1) hx hb dX10_frost_53 (by decide) ?_
          refine lv_goto (tgt := 58) hx hb dX10_frost_54 (by decide) ?_
          exact hk11 1 hf H locs ls hP hS (lv_sub hl [0, 2] rfl)
      refine lv_if_eq (tgt := 45) hx hb dX10_frost_38 (by decide) (fun c38 => ?_) (fun c38 => ?_)
      · have hf := itT hf c38
        refine lv_iconst (v := 0) hx hb dX10_frost_45 (by decide) ?_
        exact hk7 0 hf H locs ls hP hS (lv_sub hl [1, 2, 3, 0] rfl)
      · have hf := itF hf c38
        refine lv_iconst (v := 1) hx hb dX10_frost_41 (by decide) ?_
        refine lv_goto (tgt := 46) hx hb dX10_frost_42 (by decide) ?_
        exact hk7 1 hf H locs ls hP hS (lv_sub hl [1, 2, 3, 0] rfl)
def q_X10_frost (N : Nat) (f : mM) : Option (Int32 × mM) := sq (st2 f 0 0 0) (fun f1 => bi2 (lp_X10_frost_9 N N 0 0 f1) (fun y14 f15 => some (y14, f15)))
set_option maxHeartbeats 4000000 in
set_option maxRecDepth 100000 in
theorem b_X10_frost (C0 : cX p s m args meth c cX10_frost 4 (some .int) RX10 wsX10_frost D cy (xR)) (hj : jR ad) (hR : 1 ≤ R.frames ∧ 22 ≤ R.locals) (N : Nat)  (f : mM) (t : Int64) (r : Int32) (fR : mM) (hf : q_X10_frost N f = some (r, fR)) (kr : ∀ (H : Heap) (locs : List Loc) (ls : Array Slot) (pc : Nat), decode cX10_frost pc = .ok (.ireturn, 1) → va_P D vwCl (wR ad cy fR t) H → va_S (aR ad) s.heap H locs → W p l e R s m args below meth c H locs 0 0 Q (F0 m pc ls [.int r])) (H : Heap) (locs : List Loc) (ls : Array Slot) (hP : va_P D vwCl (wR ad cy f t) H) (hS : va_S (aR ad) s.heap H locs) (hl : lv_has ls 4 [(0, .ref (ad 0))]) : W p l e R s m args below meth c H locs 0 0 Q (F0 m 0 ls []) := by
  obtain ⟨hx, hb, hr, hml, hown, hts, hlocks, hK, hX0⟩ := id C0
  have lk69 := hts (.fieldLink RX10 69 "PlankNineModel" "thrown" "I") (List.mem_of_getElem? (i := 1) rfl)
  have hiX10 : ∀ w ∈ u_ws RX10 TX10 34, w ∈ wsX10_frost := fun w h => List.mem_cons_of_mem _ (List.mem_append_right _ h)
  unfold q_X10_frost at hf
  refine lv_aload_n hx hb dX10_frost_0 rfl (lv_at hl 0 rfl) ?_
  refine lv_iconst (v := 0) hx hb dX10_frost_1 (by decide) ?_
  obtain ⟨f1, ef1, hf⟩ := sq_out hf
  refine va_put (D := D) (ci := 10) (v := .int 0) (ty := .int) (C := RX10) (T := TX10) (N := 34) hx hb hts hiX10 tyX10 tyX10_ok nmX10 hown hK hP (dR hj f t) hS 0 rfl rfl 0 (by decide) lk69 (fun _ h9 => h9) rfl (by decide +kernel) rfl rfl (Nat.le_of_ble_eq_true rfl) dX10_frost_2 (fun H locs hP _ hS => ?_)
  have hP := sR_0_0 ef1 hP
  refine lv_iconst (v := 0) hx hb dX10_frost_5 (by decide) ?_
  refine lv_istore_n (lv' := [(1, .int 0), (0, .ref (ad 0))]) hx hb dX10_frost_6 rfl hl (by decide) rfl (fun ls hl => ?_)
  refine lv_iconst (v := 0) hx hb dX10_frost_7 (by decide) ?_
  refine lv_istore_n (lv' := [(2, .int 0), (1, .int 0), (0, .ref (ad 0))]) hx hb dX10_frost_8 rfl hl (by decide) rfl (fun ls hl => ?_)
  obtain ⟨y14, f15, hlp16, hf⟩ := bi2_out hf
  refine lp_X10_frost_9_w C0 hj hR N t y14 f15 ?_ N 0 0 f1 hlp16 H locs ls hP hS (lv_sub hl [2, 1, 0] rfl)
  intro H locs ls hP hS hl
  refine lv_iload_n hx hb dX10_frost_66 rfl (lv_at hl 0 rfl) ?_
  obtain ⟨rfl, rfl⟩ := Prod.mk.inj (Option.some.inj hf)
  exact kr H locs ls 67 dX10_frost_67 hP hS
set_option maxHeartbeats 4000000 in
set_option maxRecDepth 100000 in
theorem c_X10_frost (hj : jR ad) (l : Launch) (N : Nat)  (f : mM) (t : Int64) (r : Int32) (fR : mM) (hf : q_X10_frost N f = some (r, fR)) : Met l yX10_frost wsX10_frost ({ frames := 1, cells := 0, slots := 0, locals := 22 }) (va_Pc ([.ref (ad 0)]) (pre D cy (wR ad cy) (xR) f t)) (va_Qi (fun (r2 : Int32) (u : mM × Int64) => r2 = r ∧ u = (fR, t)) (atW D (wR ad cy)) (aR ad)) 0 0 (aR ad) := by
  refine Met.ofW (cc := cX10_frost) (maxL := 4) (ret := (some .int)) (by decide) rfl ?_
  intro p e s m args below meth c s₁ B hml hv
  obtain ⟨rfl, hP, hK, hX0⟩ := hv
  have hl := lv_entry ([.ref (ad 0)]) (n := 4) (Nat.le_of_ble_eq_true rfl)
  rw [lg_entry_eq]
  generalize (lg_sl ([.ref (ad 0)]) ++ List.replicate (4 - (lg_sl ([.ref (ad 0)])).length) Slot.unset).toArray = ls at hl ⊢
  have hlocks := B.notSynchronized
  exact b_X10_frost ⟨B.exec, B.bytes, B.returns, hml, findClass_of_methodNamed B.named, atoms_spec (ws := wsX10_frost) B.pre, hlocks, hK, hX0⟩ hj ⟨Nat.le_refl _, Nat.le_refl _⟩ N  f t r fR hf (fun H locs ls pc hd hP hS => W.iret B.exec B.bytes B.returns (fun t2 ht hW => ⟨⟨r, (fR, t), rfl, ⟨rfl, rfl⟩, by show va_P D vwCl _ t2.heap; rw [ht]; exact hP⟩, hS.F ht⟩) hS.2.2 hd) s.heap [] ls hP va_S.rf hl
def q_X10_cart (x1 : Int32) (f : mM) : Option (Int32 × mM) := sq (st2 f 0 0 0) (fun f1 => bi (q_X10_isPlank x1 f1) (fun y2 => if y2 = 0 then some ((-1), f1) else gi x1 50 (sq (f1 8 (Int32.toNatClampNeg x1)) (fun x2_5 => gi x1 50 (sq (st2 f1 8 (Int32.toNatClampNeg x1) 9) (fun f7 => some (x2_5, f7)))))))
set_option maxHeartbeats 4000000 in
set_option maxRecDepth 100000 in
theorem b_X10_cart (C0 : cX p s m args meth c cX10_cart 3 (some .int) RX10 wsX10_cart D cy (xR)) (hj : jR ad) (hR : 2 ≤ R.frames ∧ 43 ≤ R.locals) (x1 : Int32) (f : mM) (t : Int64) (r : Int32) (fR : mM) (hf : q_X10_cart x1 f = some (r, fR)) (kr : ∀ (H : Heap) (locs : List Loc) (ls : Array Slot) (pc : Nat), decode cX10_cart pc = .ok (.ireturn, 1) → va_P D vwCl (wR ad cy fR t) H → va_S (aR ad) s.heap H locs → W p l e R s m args below meth c H locs 0 0 Q (F0 m pc ls [.int r])) (H : Heap) (locs : List Loc) (ls : Array Slot) (hP : va_P D vwCl (wR ad cy f t) H) (hS : va_S (aR ad) s.heap H locs) (hl : lv_has ls 3 [(0, .ref (ad 0)), (1, .int x1)]) : W p l e R s m args below meth c H locs 0 0 Q (F0 m 0 ls []) := by
  obtain ⟨hx, hb, hr, hml, hown, hts, hlocks, hK, hX0⟩ := id C0
  have lk69 := hts (.fieldLink RX10 69 "PlankNineModel" "thrown" "I") (List.mem_of_getElem? (i := 1) rfl)
  have hiX10 : ∀ w ∈ u_ws RX10 TX10 34, w ∈ wsX10_cart := fun w h => List.mem_cons_of_mem _ (List.mem_append_right _ h)
  have lk31 := hts (.fieldLink RX10 31 "PlankNineModel" "s" "[I") (List.mem_of_getElem? (i := 2) rfl)
  unfold q_X10_cart at hf
  refine lv_aload_n hx hb dX10_cart_0 rfl (lv_at hl 0 rfl) ?_
  refine lv_iconst (v := 0) hx hb dX10_cart_1 (by decide) ?_
  obtain ⟨f1, ef1, hf⟩ := sq_out hf
  refine va_put (D := D) (ci := 10) (v := .int 0) (ty := .int) (C := RX10) (T := TX10) (N := 34) hx hb hts hiX10 tyX10 tyX10_ok nmX10 hown hK hP (dR hj f t) hS 0 rfl rfl 0 (by decide) lk69 (fun _ h9 => h9) rfl (by decide +kernel) rfl rfl (Nat.le_of_ble_eq_true rfl) dX10_cart_2 (fun H locs hP _ hS => ?_)
  have hP := sR_0_0 ef1 hP
  refine lv_aload_n hx hb dX10_cart_5 rfl (lv_at hl 0 rfl) ?_
  refine lv_iload_n hx hb dX10_cart_6 rfl (lv_at hl 1 rfl) ?_
  obtain ⟨y2, hq3, hf⟩ := bi_out hf
  refine cw_vi (As := [.int x1]) (rest := []) ⟨hx, hb, hml, hown, hts⟩ xR_S hK hX0 hS hP (c_X10_isPlank hj l x1 f1 t y2 hq3) (cwV 1 hts gX10_cart_X10_isPlank rfl rfl rfl (by decide +kernel) ⟨Nat.le_trans (Nat.le_of_ble_eq_true rfl) hR.1, Nat.le_trans (Nat.le_of_ble_eq_true rfl) hR.2⟩) (va_recv hK hP (ci := 10) (q0 := 0) rfl rfl) rfl hl.1 rfl (Nat.le_of_ble_eq_true rfl) ⟨Nat.zero_le _, Nat.zero_le _⟩ dX10_cart_7 (fun H locs hP hS => ?_)
  refine lv_if_ne (tgt := 15) hx hb dX10_cart_10 (by decide) (fun c10 => ?_) (fun c10 => ?_)
  · have hf := itF hf c10
    refine lv_aload_n hx hb dX10_cart_15 rfl (lv_at hl 0 rfl) ?_
    refine va_get (D := D) (ci := 10) (v := .ref (ad 8)) (C := RX10) (T := TX10) (N := 34) hx hb hts hiX10 hown hK hP 0 rfl rfl 23 (by decide) lk31 (fun _ h9 => h9) rfl dX10_cart_16 ?_
    refine lv_iload_n hx hb dX10_cart_19 rfl (lv_at hl 1 rfl) ?_
    obtain ⟨hin4, hf⟩ := gi_out hf
    refine va_iald hx hb hK hP 8 1 rfl rfl hin4 dX10_cart_20 ?_
    obtain ⟨x2_5, ex2_5, hf⟩ := sq_out hf
    refine lv_nmi ex2_5 ?_
    refine lv_istore_n (lv' := [(2, .int x2_5), (0, .ref (ad 0)), (1, .int x1)]) hx hb dX10_cart_21 rfl hl (by decide) rfl (fun ls hl => ?_)
    refine lv_aload_n hx hb dX10_cart_22 rfl (lv_at hl 1 rfl) ?_
    refine va_get (D := D) (ci := 10) (v := .ref (ad 8)) (C := RX10) (T := TX10) (N := 34) hx hb hts hiX10 hown hK hP 0 rfl rfl 23 (by decide) lk31 (fun _ h9 => h9) rfl dX10_cart_23 ?_
    refine lv_iload_n hx hb dX10_cart_26 rfl (lv_at hl 2 rfl) ?_
    refine lv_bipush (v := 9) hx hb dX10_cart_27 (by decide) ?_
    obtain ⟨hin6, hf⟩ := gi_out hf
    obtain ⟨f7, ef7, hf⟩ := sq_out hf
    refine va_iast hx hb hK hP (dR hj f1 t) hS 8 1 rfl rfl hin6 dX10_cart_29 (fun H locs hP _ hS => ?_)
    have hP := sR_8 ef7 hP
    refine lv_iload_n hx hb dX10_cart_30 rfl (lv_at hl 0 rfl) ?_
    obtain ⟨rfl, rfl⟩ := Prod.mk.inj (Option.some.inj hf)
    exact kr H locs ls 31 dX10_cart_31 hP hS
  · have hf := itT hf c10
    refine lv_iconst (v := (-1)) hx hb dX10_cart_13 (by decide) ?_
    obtain ⟨rfl, rfl⟩ := Prod.mk.inj (Option.some.inj hf)
    exact kr H locs ls 14 dX10_cart_14 hP hS
set_option maxHeartbeats 4000000 in
set_option maxRecDepth 100000 in
theorem c_X10_cart (hj : jR ad) (l : Launch) (x1 : Int32) (f : mM) (t : Int64) (r : Int32) (fR : mM) (hf : q_X10_cart x1 f = some (r, fR)) : Met l yX10_cart wsX10_cart ({ frames := 2, cells := 0, slots := 0, locals := 43 }) (va_Pc ([.ref (ad 0), .int x1]) (pre D cy (wR ad cy) (xR) f t)) (va_Qi (fun (r2 : Int32) (u : mM × Int64) => r2 = r ∧ u = (fR, t)) (atW D (wR ad cy)) (aR ad)) 0 0 (aR ad) := by
  refine Met.ofW (cc := cX10_cart) (maxL := 3) (ret := (some .int)) (by decide) rfl ?_
  intro p e s m args below meth c s₁ B hml hv
  obtain ⟨rfl, hP, hK, hX0⟩ := hv
  have hl := lv_entry ([.ref (ad 0), .int x1]) (n := 3) (Nat.le_of_ble_eq_true rfl)
  rw [lg_entry_eq]
  generalize (lg_sl ([.ref (ad 0), .int x1]) ++ List.replicate (3 - (lg_sl ([.ref (ad 0), .int x1])).length) Slot.unset).toArray = ls at hl ⊢
  have hlocks := B.notSynchronized
  exact b_X10_cart ⟨B.exec, B.bytes, B.returns, hml, findClass_of_methodNamed B.named, atoms_spec (ws := wsX10_cart) B.pre, hlocks, hK, hX0⟩ hj ⟨Nat.le_refl _, Nat.le_refl _⟩ x1 f t r fR hf (fun H locs ls pc hd hP hS => W.iret B.exec B.bytes B.returns (fun t2 ht hW => ⟨⟨r, (fR, t), rfl, ⟨rfl, rfl⟩, by show va_P D vwCl _ t2.heap; rw [ht]; exact hP⟩, hS.F ht⟩) hS.2.2 hd) s.heap [] ls hP va_S.rf hl
def q_X10_changes (x1 : Int32) (x2 : Int32) (f : mM) : Option (mM) := gi x1 50 (sq (f 8 (Int32.toNatClampNeg x1)) (fun x3_2 => gi x2 50 (gi x1 50 (sq (st2 f 8 (Int32.toNatClampNeg x1) (f 8 (Int32.toNatClampNeg x2))) (fun f5 => gi x2 50 (sq (st2 f5 8 (Int32.toNatClampNeg x2) x3_2) (fun f7 => some f7)))))))
set_option maxHeartbeats 4000000 in
set_option maxRecDepth 100000 in
theorem b_X10_changes (C0 : cX p s m args meth c cX10_changes 4 none RX10 wsX10_changes D cy (xR)) (hj : jR ad) (hR : 0 ≤ R.frames ∧ 0 ≤ R.locals) (x1 : Int32) (x2 : Int32) (f : mM) (t : Int64) (fR : mM) (hf : q_X10_changes x1 x2 f = some fR) (kr : ∀ (H : Heap) (locs : List Loc) (ls : Array Slot) (pc : Nat), decode cX10_changes pc = .ok (.return_, 1) → va_P D vwCl (wR ad cy fR t) H → va_S (aR ad) s.heap H locs → W p l e R s m args below meth c H locs 0 0 Q (F0 m pc ls [])) (H : Heap) (locs : List Loc) (ls : Array Slot) (hP : va_P D vwCl (wR ad cy f t) H) (hS : va_S (aR ad) s.heap H locs) (hl : lv_has ls 4 [(0, .ref (ad 0)), (1, .int x1), (2, .int x2)]) : W p l e R s m args below meth c H locs 0 0 Q (F0 m 0 ls []) := by
  obtain ⟨hx, hb, hr, hml, hown, hts, hlocks, hK, hX0⟩ := id C0
  have lk31 := hts (.fieldLink RX10 31 "PlankNineModel" "s" "[I") (List.mem_of_getElem? (i := 1) rfl)
  have hiX10 : ∀ w ∈ u_ws RX10 TX10 34, w ∈ wsX10_changes := fun w h => List.mem_cons_of_mem _ (List.mem_append_right _ h)
  unfold q_X10_changes at hf
  refine lv_aload_n hx hb dX10_changes_0 rfl (lv_at hl 0 rfl) ?_
  refine va_get (D := D) (ci := 10) (v := .ref (ad 8)) (C := RX10) (T := TX10) (N := 34) hx hb hts hiX10 hown hK hP 0 rfl rfl 23 (by decide) lk31 (fun _ h9 => h9) rfl dX10_changes_1 ?_
  refine lv_iload_n hx hb dX10_changes_4 rfl (lv_at hl 1 rfl) ?_
  obtain ⟨hin1, hf⟩ := gi_out hf
  refine va_iald hx hb hK hP 8 1 rfl rfl hin1 dX10_changes_5 ?_
  obtain ⟨x3_2, ex3_2, hf⟩ := sq_out hf
  refine lv_nmi ex3_2 ?_
  refine lv_istore_n (lv' := [(3, .int x3_2), (0, .ref (ad 0)), (1, .int x1), (2, .int x2)]) hx hb dX10_changes_6 rfl hl (by decide) rfl (fun ls hl => ?_)
  refine lv_aload_n hx hb dX10_changes_7 rfl (lv_at hl 1 rfl) ?_
  refine va_get (D := D) (ci := 10) (v := .ref (ad 8)) (C := RX10) (T := TX10) (N := 34) hx hb hts hiX10 hown hK hP 0 rfl rfl 23 (by decide) lk31 (fun _ h9 => h9) rfl dX10_changes_8 ?_
  refine lv_iload_n hx hb dX10_changes_11 rfl (lv_at hl 2 rfl) ?_
  refine lv_aload_n hx hb dX10_changes_12 rfl (lv_at hl 1 rfl) ?_
  refine va_get (D := D) (ci := 10) (v := .ref (ad 8)) (C := RX10) (T := TX10) (N := 34) hx hb hts hiX10 hown hK hP 0 rfl rfl 23 (by decide) lk31 (fun _ h9 => h9) rfl dX10_changes_13 ?_
  refine lv_iload_n hx hb dX10_changes_16 rfl (lv_at hl 3 rfl) ?_
  obtain ⟨hin3, hf⟩ := gi_out hf
  refine va_iald hx hb hK hP 8 1 rfl rfl hin3 dX10_changes_17 ?_
  obtain ⟨hin4, hf⟩ := gi_out hf
  obtain ⟨f5, ef5, hf⟩ := sq_out hf
  refine va_iast hx hb hK hP (dR hj f t) hS 8 1 rfl rfl hin4 dX10_changes_18 (fun H locs hP _ hS => ?_)
  have hP := sR_8 ef5 hP
  refine lv_aload_n hx hb dX10_changes_19 rfl (lv_at hl 1 rfl) ?_
  refine va_get (D := D) (ci := 10) (v := .ref (ad 8)) (C := RX10) (T := TX10) (N := 34) hx hb hts hiX10 hown hK hP 0 rfl rfl 23 (by decide) lk31 (fun _ h9 => h9) rfl dX10_changes_20 ?_
  refine lv_iload_n hx hb dX10_changes_23 rfl (lv_at hl 3 rfl) ?_
  refine lv_iload_n hx hb dX10_changes_24 rfl (lv_at hl 0 rfl) ?_
  obtain ⟨hin6, hf⟩ := gi_out hf
  obtain ⟨f7, ef7, hf⟩ := sq_out hf
  refine va_iast hx hb hK hP (dR hj f5 t) hS 8 1 rfl rfl hin6 dX10_changes_25 (fun H locs hP _ hS => ?_)
  have hP := sR_8 ef7 hP
  obtain rfl := Option.some.inj hf
  exact kr H locs ls 26 dX10_changes_26 hP hS
set_option maxHeartbeats 4000000 in
set_option maxRecDepth 100000 in
theorem c_X10_changes (hj : jR ad) (l : Launch) (x1 : Int32) (x2 : Int32) (f : mM) (t : Int64) (fR : mM) (hf : q_X10_changes x1 x2 f = some fR) : Met l yX10_changes wsX10_changes ({ frames := 0, cells := 0, slots := 0, locals := 0 }) (va_Pc ([.ref (ad 0), .int x1, .int x2]) (pre D cy (wR ad cy) (xR) f t)) (va_Qv (fun (u : mM × Int64) => u = (fR, t)) (atW D (wR ad cy)) (aR ad)) 0 0 (aR ad) := by
  refine Met.ofW (cc := cX10_changes) (maxL := 4) (ret := none) (by decide) rfl ?_
  intro p e s m args below meth c s₁ B hml hv
  obtain ⟨rfl, hP, hK, hX0⟩ := hv
  have hl := lv_entry ([.ref (ad 0), .int x1, .int x2]) (n := 4) (Nat.le_of_ble_eq_true rfl)
  rw [lg_entry_eq]
  generalize (lg_sl ([.ref (ad 0), .int x1, .int x2]) ++ List.replicate (4 - (lg_sl ([.ref (ad 0), .int x1, .int x2])).length) Slot.unset).toArray = ls at hl ⊢
  have hlocks := B.notSynchronized
  exact b_X10_changes ⟨B.exec, B.bytes, B.returns, hml, findClass_of_methodNamed B.named, atoms_spec (ws := wsX10_changes) B.pre, hlocks, hK, hX0⟩ hj ⟨Nat.le_refl _, Nat.le_refl _⟩ x1 x2 f t fR hf (fun H locs ls pc hd hP hS => W.vret B.exec B.bytes B.returns (fun t2 ht hW => ⟨⟨(fR, t), rfl, rfl, by show va_P D vwCl _ t2.heap; rw [ht]; exact hP⟩, hS.F ht⟩) hS.2.2 hd) s.heap [] ls hP va_S.rf hl
def q_X10_exchange (x1 : Int32) (x2 : Int32) (f : mM) : Option (Int32 × mM) := sq (st2 f 0 0 0) (fun f1 => bi (q_X10_isPlank x1 f1) (fun y2 => if y2 = 0 then some ((-1), f1) else bi (q_X10_isPlank x2 f1) (fun y4 => if y4 = 0 then some ((-1), f1) else if x1 = x2 then some ((-1), f1) else bi (q_X10_changes x1 x2 f1) (fun f6 => some (1, f6)))))
set_option maxHeartbeats 4000000 in
set_option maxRecDepth 100000 in
theorem b_X10_exchange (C0 : cX p s m args meth c cX10_exchange 3 (some .int) RX10 wsX10_exchange D cy (xR)) (hj : jR ad) (hR : 2 ≤ R.frames ∧ 43 ≤ R.locals) (x1 : Int32) (x2 : Int32) (f : mM) (t : Int64) (r : Int32) (fR : mM) (hf : q_X10_exchange x1 x2 f = some (r, fR)) (kr : ∀ (H : Heap) (locs : List Loc) (ls : Array Slot) (pc : Nat), decode cX10_exchange pc = .ok (.ireturn, 1) → va_P D vwCl (wR ad cy fR t) H → va_S (aR ad) s.heap H locs → W p l e R s m args below meth c H locs 0 0 Q (F0 m pc ls [.int r])) (H : Heap) (locs : List Loc) (ls : Array Slot) (hP : va_P D vwCl (wR ad cy f t) H) (hS : va_S (aR ad) s.heap H locs) (hl : lv_has ls 3 [(0, .ref (ad 0)), (1, .int x1), (2, .int x2)]) : W p l e R s m args below meth c H locs 0 0 Q (F0 m 0 ls []) := by
  obtain ⟨hx, hb, hr, hml, hown, hts, hlocks, hK, hX0⟩ := id C0
  have lk69 := hts (.fieldLink RX10 69 "PlankNineModel" "thrown" "I") (List.mem_of_getElem? (i := 1) rfl)
  have hiX10 : ∀ w ∈ u_ws RX10 TX10 34, w ∈ wsX10_exchange := fun w h => List.mem_cons_of_mem _ (List.mem_append_right _ h)
  unfold q_X10_exchange at hf
  refine lv_aload_n hx hb dX10_exchange_0 rfl (lv_at hl 0 rfl) ?_
  refine lv_iconst (v := 0) hx hb dX10_exchange_1 (by decide) ?_
  obtain ⟨f1, ef1, hf⟩ := sq_out hf
  refine va_put (D := D) (ci := 10) (v := .int 0) (ty := .int) (C := RX10) (T := TX10) (N := 34) hx hb hts hiX10 tyX10 tyX10_ok nmX10 hown hK hP (dR hj f t) hS 0 rfl rfl 0 (by decide) lk69 (fun _ h9 => h9) rfl (by decide +kernel) rfl rfl (Nat.le_of_ble_eq_true rfl) dX10_exchange_2 (fun H locs hP _ hS => ?_)
  have hP := sR_0_0 ef1 hP
  refine lv_aload_n hx hb dX10_exchange_5 rfl (lv_at hl 0 rfl) ?_
  refine lv_iload_n hx hb dX10_exchange_6 rfl (lv_at hl 1 rfl) ?_
  obtain ⟨y2, hq3, hf⟩ := bi_out hf
  refine cw_vi (As := [.int x1]) (rest := []) ⟨hx, hb, hml, hown, hts⟩ xR_S hK hX0 hS hP (c_X10_isPlank hj l x1 f1 t y2 hq3) (cwV 1 hts gX10_exchange_X10_isPlank rfl rfl rfl (by decide +kernel) ⟨Nat.le_trans (Nat.le_of_ble_eq_true rfl) hR.1, Nat.le_trans (Nat.le_of_ble_eq_true rfl) hR.2⟩) (va_recv hK hP (ci := 10) (q0 := 0) rfl rfl) rfl hl.1 rfl (Nat.le_of_ble_eq_true rfl) ⟨Nat.zero_le _, Nat.zero_le _⟩ dX10_exchange_7 (fun H locs hP hS => ?_)
  refine lv_if_eq (tgt := 26) hx hb dX10_exchange_10 (by decide) (fun c10 => ?_) (fun c10 => ?_)
  · have hf := itT hf c10
    refine lv_iconst (v := (-1)) hx hb dX10_exchange_26 (by decide) ?_
    obtain ⟨rfl, rfl⟩ := Prod.mk.inj (Option.some.inj hf)
    exact kr H locs ls 27 dX10_exchange_27 hP hS
  · have hf := itF hf c10
    refine lv_aload_n hx hb dX10_exchange_13 rfl (lv_at hl 0 rfl) ?_
    refine lv_iload_n hx hb dX10_exchange_14 rfl (lv_at hl 2 rfl) ?_
    obtain ⟨y4, hq5, hf⟩ := bi_out hf
    refine cw_vi (As := [.int x2]) (rest := []) ⟨hx, hb, hml, hown, hts⟩ xR_S hK hX0 hS hP (c_X10_isPlank hj l x2 f1 t y4 hq5) (cwV 1 hts gX10_exchange_X10_isPlank rfl rfl rfl (by decide +kernel) ⟨Nat.le_trans (Nat.le_of_ble_eq_true rfl) hR.1, Nat.le_trans (Nat.le_of_ble_eq_true rfl) hR.2⟩) (va_recv hK hP (ci := 10) (q0 := 0) rfl rfl) rfl hl.1 rfl (Nat.le_of_ble_eq_true rfl) ⟨Nat.zero_le _, Nat.zero_le _⟩ dX10_exchange_15 (fun H locs hP hS => ?_)
    refine lv_if_eq (tgt := 26) hx hb dX10_exchange_18 (by decide) (fun c18 => ?_) (fun c18 => ?_)
    · have hf := itT hf c18
      refine lv_iconst (v := (-1)) hx hb dX10_exchange_26 (by decide) ?_
      obtain ⟨rfl, rfl⟩ := Prod.mk.inj (Option.some.inj hf)
      exact kr H locs ls 27 dX10_exchange_27 hP hS
    · have hf := itF hf c18
      refine lv_iload_n hx hb dX10_exchange_21 rfl (lv_at hl 1 rfl) ?_
      refine lv_iload_n hx hb dX10_exchange_22 rfl (lv_at hl 2 rfl) ?_
      refine lv_icmp_ne (tgt := 28) hx hb dX10_exchange_23 (by decide) (fun c23 => ?_) (fun c23 => ?_)
      · have hf := itF hf c23
        refine lv_aload_n hx hb dX10_exchange_28 rfl (lv_at hl 0 rfl) ?_
        refine lv_iload_n hx hb dX10_exchange_29 rfl (lv_at hl 1 rfl) ?_
        refine lv_iload_n hx hb dX10_exchange_30 rfl (lv_at hl 2 rfl) ?_
        obtain ⟨f6, hq7, hf⟩ := bi_out hf
        refine cw_vv (As := [.int x1, .int x2]) (rest := []) ⟨hx, hb, hml, hown, hts⟩ xR_S hK hX0 hS hP (c_X10_changes hj l x1 x2 f1 t f6 hq7) (cwV 2 hts gX10_exchange_X10_changes rfl rfl rfl (by decide +kernel) ⟨Nat.le_trans (Nat.le_of_ble_eq_true rfl) hR.1, Nat.le_trans (Nat.le_of_ble_eq_true rfl) hR.2⟩) (va_recv hK hP (ci := 10) (q0 := 0) rfl rfl) rfl hl.1 rfl (Nat.le_of_ble_eq_true rfl) ⟨Nat.zero_le _, Nat.zero_le _⟩ dX10_exchange_31 (fun H locs hP hS => ?_)
        refine lv_iconst (v := 1) hx hb dX10_exchange_34 (by decide) ?_
        obtain ⟨rfl, rfl⟩ := Prod.mk.inj (Option.some.inj hf)
        exact kr H locs ls 35 dX10_exchange_35 hP hS
      · have hf := itT hf c23
        refine lv_iconst (v := (-1)) hx hb dX10_exchange_26 (by decide) ?_
        obtain ⟨rfl, rfl⟩ := Prod.mk.inj (Option.some.inj hf)
        exact kr H locs ls 27 dX10_exchange_27 hP hS
set_option maxHeartbeats 4000000 in
set_option maxRecDepth 100000 in
theorem c_X10_exchange (hj : jR ad) (l : Launch) (x1 : Int32) (x2 : Int32) (f : mM) (t : Int64) (r : Int32) (fR : mM) (hf : q_X10_exchange x1 x2 f = some (r, fR)) : Met l yX10_exchange wsX10_exchange ({ frames := 2, cells := 0, slots := 0, locals := 43 }) (va_Pc ([.ref (ad 0), .int x1, .int x2]) (pre D cy (wR ad cy) (xR) f t)) (va_Qi (fun (r2 : Int32) (u : mM × Int64) => r2 = r ∧ u = (fR, t)) (atW D (wR ad cy)) (aR ad)) 0 0 (aR ad) := by
  refine Met.ofW (cc := cX10_exchange) (maxL := 3) (ret := (some .int)) (by decide) rfl ?_
  intro p e s m args below meth c s₁ B hml hv
  obtain ⟨rfl, hP, hK, hX0⟩ := hv
  have hl := lv_entry ([.ref (ad 0), .int x1, .int x2]) (n := 3) (Nat.le_of_ble_eq_true rfl)
  rw [lg_entry_eq]
  generalize (lg_sl ([.ref (ad 0), .int x1, .int x2]) ++ List.replicate (3 - (lg_sl ([.ref (ad 0), .int x1, .int x2])).length) Slot.unset).toArray = ls at hl ⊢
  have hlocks := B.notSynchronized
  exact b_X10_exchange ⟨B.exec, B.bytes, B.returns, hml, findClass_of_methodNamed B.named, atoms_spec (ws := wsX10_exchange) B.pre, hlocks, hK, hX0⟩ hj ⟨Nat.le_refl _, Nat.le_refl _⟩ x1 x2 f t r fR hf (fun H locs ls pc hd hP hS => W.iret B.exec B.bytes B.returns (fun t2 ht hW => ⟨⟨r, (fR, t), rfl, ⟨rfl, rfl⟩, by show va_P D vwCl _ t2.heap; rw [ht]; exact hP⟩, hS.F ht⟩) hS.2.2 hd) s.heap [] ls hP va_S.rf hl
