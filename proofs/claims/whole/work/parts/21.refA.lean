variable {p : Program} {l : Launch} {e : Env} {R : Room} {s : State} {m : MethodId} {args : Array Value} {below : List Frame} {meth : Method} {c : Code} {Q : State → Prop} {D : va_G} {cy : Nat → ClassId} {ad sk sv : Nat → Nat}
def q_X10_in (x0 : Int32) (x1 : Int32) (x2 : Int32) : Option (Int32) := if x0 < x1 then rz 0 (some 0) else if x2 < x0 then rz 0 (some 0) else rz 1 (some 1)
set_option maxHeartbeats 4000000 in
set_option maxRecDepth 100000 in
theorem b_X10_in (C0 : cX p s m args meth c cX10_in 3 (some .boolean) RX10 wsX10_in D cy (xR)) (hj : jR ad) (hR : 0 ≤ R.frames ∧ 0 ≤ R.locals) (x0 : Int32) (x1 : Int32) (x2 : Int32) (f : mM) (t : Int64) (r : Int32) (hf : q_X10_in x0 x1 x2 = some r) (kr : ∀ (H : Heap) (locs : List Loc) (ls : Array Slot) (pc : Nat), decode cX10_in pc = .ok (.ireturn, 1) → narrow .boolean (.int r) = .int r → va_P D vwCl (wR ad cy f t) H → va_S (aR ad) s.heap H locs → W p l e R s m args below meth c H locs 0 0 Q (F0 m pc ls [.int r])) (H : Heap) (locs : List Loc) (ls : Array Slot) (hP : va_P D vwCl (wR ad cy f t) H) (hS : va_S (aR ad) s.heap H locs) (hl : lv_has ls 3 [(0, .int x0), (1, .int x1), (2, .int x2)]) : W p l e R s m args below meth c H locs 0 0 Q (F0 m 0 ls []) := by
  obtain ⟨hx, hb, hr, hml, hown, hts, hlocks, hK, hX0⟩ := id C0
  unfold q_X10_in at hf
  refine lv_iload_n hx hb dX10_in_0 rfl (lv_at hl 0 rfl) ?_
  refine lv_iload_n hx hb dX10_in_1 rfl (lv_at hl 1 rfl) ?_
  refine lv_icmp_lt (tgt := 14) hx hb dX10_in_2 (by decide) (fun c2 => ?_) (fun c2 => ?_)
  · have hf := itT hf c2
    refine lv_iconst (v := 0) hx hb dX10_in_14 (by decide) ?_
    obtain ⟨hz, hf⟩ := rz_out hf
    obtain rfl := Option.some.inj hf
    exact kr H locs ls 15 dX10_in_15 hz hP hS
  · have hf := itF hf c2
    refine lv_iload_n hx hb dX10_in_5 rfl (lv_at hl 0 rfl) ?_
    refine lv_iload_n hx hb dX10_in_6 rfl (lv_at hl 2 rfl) ?_
    refine lv_icmp_gt (tgt := 14) hx hb dX10_in_7 (by decide) (fun c7 => ?_) (fun c7 => ?_)
    · have hf := itT hf c7
      refine lv_iconst (v := 0) hx hb dX10_in_14 (by decide) ?_
      obtain ⟨hz, hf⟩ := rz_out hf
      obtain rfl := Option.some.inj hf
      exact kr H locs ls 15 dX10_in_15 hz hP hS
    · have hf := itF hf c7
      refine lv_iconst (v := 1) hx hb dX10_in_10 (by decide) ?_
      refine lv_goto (tgt := 15) hx hb dX10_in_11 (by decide) ?_
      obtain ⟨hz, hf⟩ := rz_out hf
      obtain rfl := Option.some.inj hf
      exact kr H locs ls 15 dX10_in_15 hz hP hS
set_option maxHeartbeats 4000000 in
set_option maxRecDepth 100000 in
theorem c_X10_in (hj : jR ad) (l : Launch) (x0 : Int32) (x1 : Int32) (x2 : Int32) (f : mM) (t : Int64) (r : Int32) (hf : q_X10_in x0 x1 x2 = some r) : Met l yX10_in wsX10_in ({ frames := 0, cells := 0, slots := 0, locals := 0 }) (va_Pc ([.int x0, .int x1, .int x2]) (pre D cy (wR ad cy) (xR) f t)) (va_Qi (fun (r2 : Int32) (u : mM × Int64) => r2 = r ∧ u = (f, t)) (atW D (wR ad cy)) (aR ad)) 0 0 (aR ad) := by
  refine Met.ofW (cc := cX10_in) (maxL := 3) (ret := (some .boolean)) (by decide) rfl ?_
  intro p e s m args below meth c s₁ B hml hv
  obtain ⟨rfl, hP, hK, hX0⟩ := hv
  have hl := lv_entry ([.int x0, .int x1, .int x2]) (n := 3) (Nat.le_of_ble_eq_true rfl)
  rw [lg_entry_eq]
  generalize (lg_sl ([.int x0, .int x1, .int x2]) ++ List.replicate (3 - (lg_sl ([.int x0, .int x1, .int x2])).length) Slot.unset).toArray = ls at hl ⊢
  have hlocks := B.notSynchronized
  exact b_X10_in ⟨B.exec, B.bytes, B.returns, hml, findClass_of_methodNamed B.named, atoms_spec (ws := wsX10_in) B.pre, hlocks, hK, hX0⟩ hj ⟨Nat.le_refl _, Nat.le_refl _⟩ x0 x1 x2 f t r hf (fun H locs ls pc hd hz hP hS => W.zret B.exec B.bytes B.returns hz (fun t2 ht hW => ⟨⟨r, (f, t), rfl, ⟨rfl, rfl⟩, by show va_P D vwCl _ t2.heap; rw [ht]; exact hP⟩, hS.F ht⟩) hS.2.2 hd) s.heap [] ls hP va_S.rf hl
def lp_X10_type_37 (N : Nat) (x1 : Int64) : Nat → Int32 → mM → Option (mM)
  | 0, _, _ => none
  | n + 1, x4, f => if x4 < 0 then some f else gi (f 0 3) 300 (sq (st2 f 1 (Int32.toNatClampNeg (f 0 3)) (Int64.toInt32 ((x1 >>> (Int32.toInt64 (8 * x4) &&& 63)) &&& 255))) (fun f6 => sq (st2 f6 0 3 ((f6 0 3) + 1)) (fun f7 => sq (x4 + (-1)) (fun x4_8 => lp_X10_type_37 N x1 n x4_8 f7))))
theorem lp_X10_type_37_s (N : Nat) (x1 : Int64) (n : Nat) (x4 : Int32) (f : mM) : lp_X10_type_37 N x1 (n + 1) x4 f = (if x4 < 0 then some f else gi (f 0 3) 300 (sq (st2 f 1 (Int32.toNatClampNeg (f 0 3)) (Int64.toInt32 ((x1 >>> (Int32.toInt64 (8 * x4) &&& 63)) &&& 255))) (fun f6 => sq (st2 f6 0 3 ((f6 0 3) + 1)) (fun f7 => sq (x4 + (-1)) (fun x4_8 => lp_X10_type_37 N x1 n x4_8 f7))))) := rfl
set_option maxHeartbeats 4000000 in
set_option maxRecDepth 100000 in
theorem lp_X10_type_37_w (C0 : cX p s m args meth c cX10_type 5 (some .int) RX10 wsX10_type D cy (xR)) (hj : jR ad) (hR : 1 ≤ R.frames ∧ 22 ≤ R.locals) (N : Nat) (x1 : Int64) (t : Int64) (fR : mM) (kx79 : ∀ (H : Heap) (locs : List Loc) (ls : Array Slot), va_P D vwCl (wR ad cy fR t) H → va_S (aR ad) s.heap H locs → lv_has ls 5 [(0, .ref (ad 0))] → W p l e R s m args below meth c H locs 0 0 Q (F0 m 79 ls [])) : ∀ (n : Nat) (x4 : Int32) (f : mM), lp_X10_type_37 N x1 n x4 f = some fR → ∀ (H : Heap) (locs : List Loc) (ls : Array Slot), va_P D vwCl (wR ad cy f t) H → va_S (aR ad) s.heap H locs → lv_has ls 5 [(0, .ref (ad 0)), (1, .long x1), (4, .int x4)] → W p l e R s m args below meth c H locs 0 0 Q (F0 m 37 ls []) := by
  obtain ⟨hx, hb, hr, hml, hown, hts, hlocks, hK, hX0⟩ := id C0
  have lk7 := hts (.fieldLink RX10 7 "PlankNineModel" "text" "[I") (List.mem_of_getElem? (i := 3) rfl)
  have hiX10 : ∀ w ∈ u_ws RX10 TX10 34, w ∈ wsX10_type := fun w h => List.mem_cons_of_mem _ (List.mem_append_right _ h)
  have lk76 := hts (.fieldLink RX10 76 "PlankNineModel" "typed" "I") (List.mem_of_getElem? (i := 2) rfl)
  intro n
  induction n with
  | zero =>
    intro x4 f hf
    exact no_none hf
  | succ n ih =>
    intro x4 f hf H locs ls hP hS hl
    have hf := (lp_X10_type_37_s N x1 n x4 f).symm.trans hf
    refine lv_iload hx hb dX10_type_37 (lv_at hl 2 rfl) ?_
    refine lv_if_lt (tgt := 79) hx hb dX10_type_39 (by decide) (fun c39 => ?_) (fun c39 => ?_)
    · have hf := itT hf c39
      obtain rfl := Option.some.inj hf
      exact kx79 H locs ls hP hS (lv_sub hl [0] rfl)
    · have hf := itF hf c39
      refine lv_aload_n hx hb dX10_type_42 rfl (lv_at hl 0 rfl) ?_
      refine va_get (D := D) (ci := 10) (v := .ref (ad 1)) (C := RX10) (T := TX10) (N := 34) hx hb hts hiX10 hown hK hP 0 rfl rfl 2 (by decide) lk7 (fun _ h9 => h9) rfl dX10_type_43 ?_
      refine lv_aload_n hx hb dX10_type_46 rfl (lv_at hl 0 rfl) ?_
      refine va_get (D := D) (ci := 10) (v := .int (f 0 3)) (C := RX10) (T := TX10) (N := 34) hx hb hts hiX10 hown hK hP 0 rfl rfl 3 (by decide) lk76 (fun _ h9 => h9) rfl dX10_type_47 ?_
      refine lv_lload_n hx hb dX10_type_50 rfl (lv_at hl 1 rfl) ?_
      refine lv_bipush (v := 8) hx hb dX10_type_51 (by decide) ?_
      refine lv_iload hx hb dX10_type_53 (lv_at hl 2 rfl) ?_
      refine lv_imul hx hb dX10_type_55 ?_
      refine lv_lshr hx hb dX10_type_56 rfl ?_
      refine lv_ldc2 (v := 255) hx hb hown (hts (.constantLong RX10 79 (255)) (List.mem_of_getElem? (i := 4) rfl)) dX10_type_57 ?_
      refine lv_land hx hb dX10_type_60 ?_
      refine lv_l2i hx hb dX10_type_61 rfl ?_
      obtain ⟨hin5, hf⟩ := gi_out hf
      obtain ⟨f6, ef6, hf⟩ := sq_out hf
      refine va_iast hx hb hK hP (dR hj f t) hS 1 1 rfl rfl hin5 dX10_type_62 (fun H locs hP _ hS => ?_)
      have hP := sR_1 ef6 hP
      refine lv_aload_n hx hb dX10_type_63 rfl (lv_at hl 0 rfl) ?_
      refine lv_dup hx hb dX10_type_64 rfl ?_
      refine va_get (D := D) (ci := 10) (v := .int (f6 0 3)) (C := RX10) (T := TX10) (N := 34) hx hb hts hiX10 hown hK hP 0 rfl rfl 3 (by decide) lk76 (fun _ h9 => h9) rfl dX10_type_65 ?_
      refine lv_iconst (v := 1) hx hb dX10_type_68 (by decide) ?_
      refine lv_iadd hx hb dX10_type_69 ?_
      obtain ⟨f7, ef7, hf⟩ := sq_out hf
      refine va_put (D := D) (ci := 10) (v := .int ((f6 0 3) + 1)) (ty := .int) (C := RX10) (T := TX10) (N := 34) hx hb hts hiX10 tyX10 tyX10_ok nmX10 hown hK hP (dR hj f6 t) hS 0 rfl rfl 3 (by decide) lk76 (fun _ h9 => h9) rfl (by decide +kernel) rfl rfl (Nat.le_of_ble_eq_true rfl) dX10_type_70 (fun H locs hP _ hS => ?_)
      have hP := sR_0_3 ef7 hP
      obtain ⟨x4_8, ex4_8, hf⟩ := sq_out hf
      refine lv_iinc (v := x4_8) (lv' := [(4, .int x4_8), (0, .ref (ad 0)), (1, .long x1)]) hx hb dX10_type_73 hl (k := 2) rfl (by rw [ex4_8]; rfl) (by decide) rfl (fun ls hl => ?_)
      refine lv_goto (tgt := 37) hx hb dX10_type_76 (by decide) ?_
      exact ih x4_8 f7 hf H locs ls hP hS (lv_sub hl [1, 2, 0] rfl)
def q_X10_type (N : Nat) (x1 : Int64) (x3 : Int32) (f : mM) : Option (Int32 × mM) := sq (st2 f 0 0 0) (fun f1 => bi (q_X10_in x3 1 8) (fun y2 => if y2 = 0 then some ((-1), f1) else if ((f1 0 3) + x3) ≤ 300 then sq (x3 - 1) (fun x4_4 => bi (lp_X10_type_37 N x1 N x4_4 f1) (fun f9 => some ((f9 0 3), f9))) else some ((-3), f1)))
set_option maxHeartbeats 4000000 in
set_option maxRecDepth 100000 in
theorem b_X10_type (C0 : cX p s m args meth c cX10_type 5 (some .int) RX10 wsX10_type D cy (xR)) (hj : jR ad) (hR : 1 ≤ R.frames ∧ 22 ≤ R.locals) (N : Nat) (x1 : Int64) (x3 : Int32) (f : mM) (t : Int64) (r : Int32) (fR : mM) (hf : q_X10_type N x1 x3 f = some (r, fR)) (kr : ∀ (H : Heap) (locs : List Loc) (ls : Array Slot) (pc : Nat), decode cX10_type pc = .ok (.ireturn, 1) → va_P D vwCl (wR ad cy fR t) H → va_S (aR ad) s.heap H locs → W p l e R s m args below meth c H locs 0 0 Q (F0 m pc ls [.int r])) (H : Heap) (locs : List Loc) (ls : Array Slot) (hP : va_P D vwCl (wR ad cy f t) H) (hS : va_S (aR ad) s.heap H locs) (hl : lv_has ls 5 [(0, .ref (ad 0)), (1, .long x1), (3, .int x3)]) : W p l e R s m args below meth c H locs 0 0 Q (F0 m 0 ls []) := by
  obtain ⟨hx, hb, hr, hml, hown, hts, hlocks, hK, hX0⟩ := id C0
  have lk69 := hts (.fieldLink RX10 69 "PlankNineModel" "thrown" "I") (List.mem_of_getElem? (i := 1) rfl)
  have hiX10 : ∀ w ∈ u_ws RX10 TX10 34, w ∈ wsX10_type := fun w h => List.mem_cons_of_mem _ (List.mem_append_right _ h)
  have lk76 := hts (.fieldLink RX10 76 "PlankNineModel" "typed" "I") (List.mem_of_getElem? (i := 2) rfl)
  unfold q_X10_type at hf
  refine lv_aload_n hx hb dX10_type_0 rfl (lv_at hl 0 rfl) ?_
  refine lv_iconst (v := 0) hx hb dX10_type_1 (by decide) ?_
  obtain ⟨f1, ef1, hf⟩ := sq_out hf
  refine va_put (D := D) (ci := 10) (v := .int 0) (ty := .int) (C := RX10) (T := TX10) (N := 34) hx hb hts hiX10 tyX10 tyX10_ok nmX10 hown hK hP (dR hj f t) hS 0 rfl rfl 0 (by decide) lk69 (fun _ h9 => h9) rfl (by decide +kernel) rfl rfl (Nat.le_of_ble_eq_true rfl) dX10_type_2 (fun H locs hP _ hS => ?_)
  have hP := sR_0_0 ef1 hP
  refine lv_iload_n hx hb dX10_type_5 rfl (lv_at hl 2 rfl) ?_
  refine lv_iconst (v := 1) hx hb dX10_type_6 (by decide) ?_
  refine lv_bipush (v := 8) hx hb dX10_type_7 (by decide) ?_
  obtain ⟨y2, hq3, hf⟩ := bi_out hf
  refine cw_si (As := [.int x3, .int 1, .int 8]) (rest := []) ⟨hx, hb, hml, hown, hts⟩ xR_S hK hX0 hS hP (c_X10_in hj l x3 1 8 f1 t y2 hq3) (va_cwS 3 hts gX10_type_X10_in rfl rfl rfl (by decide +kernel) ⟨Nat.le_trans (Nat.le_of_ble_eq_true rfl) hR.1, Nat.le_trans (Nat.le_of_ble_eq_true rfl) hR.2⟩) rfl hl.1 rfl (Nat.le_of_ble_eq_true rfl) ⟨Nat.zero_le _, Nat.zero_le _⟩ dX10_type_9 (fun H locs hP hS => ?_)
  refine lv_if_ne (tgt := 17) hx hb dX10_type_12 (by decide) (fun c12 => ?_) (fun c12 => ?_)
  · have hf := itF hf c12
    refine lv_aload_n hx hb dX10_type_17 rfl (lv_at hl 0 rfl) ?_
    refine va_get (D := D) (ci := 10) (v := .int (f1 0 3)) (C := RX10) (T := TX10) (N := 34) hx hb hts hiX10 hown hK hP 0 rfl rfl 3 (by decide) lk76 (fun _ h9 => h9) rfl dX10_type_18 ?_
    refine lv_iload_n hx hb dX10_type_21 rfl (lv_at hl 2 rfl) ?_
    refine lv_iadd hx hb dX10_type_22 ?_
    refine lv_sipush (v := 300) hx hb dX10_type_23 (by decide) ?_
    refine lv_icmp_le (tgt := 32) hx hb dX10_type_26 (by decide) (fun c26 => ?_) (fun c26 => ?_)
    · have hf := itT hf c26
      refine lv_iload_n hx hb dX10_type_32 rfl (lv_at hl 2 rfl) ?_
      refine lv_iconst (v := 1) hx hb dX10_type_33 (by decide) ?_
      refine lv_isub hx hb dX10_type_34 ?_
      obtain ⟨x4_4, ex4_4, hf⟩ := sq_out hf
      refine lv_nmi ex4_4 ?_
      refine lv_istore (lv' := [(4, .int x4_4), (0, .ref (ad 0)), (1, .long x1), (3, .int x3)]) hx hb dX10_type_35 hl (by decide) rfl (fun ls hl => ?_)
      obtain ⟨f9, hlp10, hf⟩ := bi_out hf
      refine lp_X10_type_37_w C0 hj hR N x1 t f9 ?_ N x4_4 f1 hlp10 H locs ls hP hS (lv_sub hl [1, 2, 0] rfl)
      intro H locs ls hP hS hl
      refine lv_aload_n hx hb dX10_type_79 rfl (lv_at hl 0 rfl) ?_
      refine va_get (D := D) (ci := 10) (v := .int (f9 0 3)) (C := RX10) (T := TX10) (N := 34) hx hb hts hiX10 hown hK hP 0 rfl rfl 3 (by decide) lk76 (fun _ h9 => h9) rfl dX10_type_80 ?_
      obtain ⟨rfl, rfl⟩ := Prod.mk.inj (Option.some.inj hf)
      exact kr H locs ls 83 dX10_type_83 hP hS
    · have hf := itF hf c26
      refine lv_bipush (v := (-3)) hx hb dX10_type_29 (by decide) ?_
      obtain ⟨rfl, rfl⟩ := Prod.mk.inj (Option.some.inj hf)
      exact kr H locs ls 31 dX10_type_31 hP hS
  · have hf := itT hf c12
    refine lv_iconst (v := (-1)) hx hb dX10_type_15 (by decide) ?_
    obtain ⟨rfl, rfl⟩ := Prod.mk.inj (Option.some.inj hf)
    exact kr H locs ls 16 dX10_type_16 hP hS
set_option maxHeartbeats 4000000 in
set_option maxRecDepth 100000 in
theorem c_X10_type (hj : jR ad) (l : Launch) (N : Nat) (x1 : Int64) (x3 : Int32) (f : mM) (t : Int64) (r : Int32) (fR : mM) (hf : q_X10_type N x1 x3 f = some (r, fR)) : Met l yX10_type wsX10_type ({ frames := 1, cells := 0, slots := 0, locals := 22 }) (va_Pc ([.ref (ad 0), .long x1, .int x3]) (pre D cy (wR ad cy) (xR) f t)) (va_Qi (fun (r2 : Int32) (u : mM × Int64) => r2 = r ∧ u = (fR, t)) (atW D (wR ad cy)) (aR ad)) 0 0 (aR ad) := by
  refine Met.ofW (cc := cX10_type) (maxL := 5) (ret := (some .int)) (by decide) rfl ?_
  intro p e s m args below meth c s₁ B hml hv
  obtain ⟨rfl, hP, hK, hX0⟩ := hv
  have hl := lv_entry ([.ref (ad 0), .long x1, .int x3]) (n := 5) (Nat.le_of_ble_eq_true rfl)
  rw [lg_entry_eq]
  generalize (lg_sl ([.ref (ad 0), .long x1, .int x3]) ++ List.replicate (5 - (lg_sl ([.ref (ad 0), .long x1, .int x3])).length) Slot.unset).toArray = ls at hl ⊢
  have hlocks := B.notSynchronized
  exact b_X10_type ⟨B.exec, B.bytes, B.returns, hml, findClass_of_methodNamed B.named, atoms_spec (ws := wsX10_type) B.pre, hlocks, hK, hX0⟩ hj ⟨Nat.le_refl _, Nat.le_refl _⟩ N x1 x3 f t r fR hf (fun H locs ls pc hd hP hS => W.iret B.exec B.bytes B.returns (fun t2 ht hW => ⟨⟨r, (fR, t), rfl, ⟨rfl, rfl⟩, by show va_P D vwCl _ t2.heap; rw [ht]; exact hP⟩, hS.F ht⟩) hS.2.2 hd) s.heap [] ls hP va_S.rf hl
def q_X10_clear (f : mM) : Option (Int32 × mM) := sq (st2 f 0 0 0) (fun f1 => sq (f1 0 3) (fun x1_2 => sq (st2 f1 0 3 0) (fun f3 => some (x1_2, f3))))
set_option maxHeartbeats 4000000 in
set_option maxRecDepth 100000 in
theorem b_X10_clear (C0 : cX p s m args meth c cX10_clear 2 (some .int) RX10 wsX10_clear D cy (xR)) (hj : jR ad) (hR : 0 ≤ R.frames ∧ 0 ≤ R.locals)  (f : mM) (t : Int64) (r : Int32) (fR : mM) (hf : q_X10_clear f = some (r, fR)) (kr : ∀ (H : Heap) (locs : List Loc) (ls : Array Slot) (pc : Nat), decode cX10_clear pc = .ok (.ireturn, 1) → va_P D vwCl (wR ad cy fR t) H → va_S (aR ad) s.heap H locs → W p l e R s m args below meth c H locs 0 0 Q (F0 m pc ls [.int r])) (H : Heap) (locs : List Loc) (ls : Array Slot) (hP : va_P D vwCl (wR ad cy f t) H) (hS : va_S (aR ad) s.heap H locs) (hl : lv_has ls 2 [(0, .ref (ad 0))]) : W p l e R s m args below meth c H locs 0 0 Q (F0 m 0 ls []) := by
  obtain ⟨hx, hb, hr, hml, hown, hts, hlocks, hK, hX0⟩ := id C0
  have lk69 := hts (.fieldLink RX10 69 "PlankNineModel" "thrown" "I") (List.mem_of_getElem? (i := 1) rfl)
  have hiX10 : ∀ w ∈ u_ws RX10 TX10 34, w ∈ wsX10_clear := fun w h => List.mem_cons_of_mem _ (List.mem_append_right _ h)
  have lk76 := hts (.fieldLink RX10 76 "PlankNineModel" "typed" "I") (List.mem_of_getElem? (i := 2) rfl)
  unfold q_X10_clear at hf
  refine lv_aload_n hx hb dX10_clear_0 rfl (lv_at hl 0 rfl) ?_
  refine lv_iconst (v := 0) hx hb dX10_clear_1 (by decide) ?_
  obtain ⟨f1, ef1, hf⟩ := sq_out hf
  refine va_put (D := D) (ci := 10) (v := .int 0) (ty := .int) (C := RX10) (T := TX10) (N := 34) hx hb hts hiX10 tyX10 tyX10_ok nmX10 hown hK hP (dR hj f t) hS 0 rfl rfl 0 (by decide) lk69 (fun _ h9 => h9) rfl (by decide +kernel) rfl rfl (Nat.le_of_ble_eq_true rfl) dX10_clear_2 (fun H locs hP _ hS => ?_)
  have hP := sR_0_0 ef1 hP
  refine lv_aload_n hx hb dX10_clear_5 rfl (lv_at hl 0 rfl) ?_
  refine va_get (D := D) (ci := 10) (v := .int (f1 0 3)) (C := RX10) (T := TX10) (N := 34) hx hb hts hiX10 hown hK hP 0 rfl rfl 3 (by decide) lk76 (fun _ h9 => h9) rfl dX10_clear_6 ?_
  obtain ⟨x1_2, ex1_2, hf⟩ := sq_out hf
  refine lv_nmi ex1_2 ?_
  refine lv_istore_n (lv' := [(1, .int x1_2), (0, .ref (ad 0))]) hx hb dX10_clear_9 rfl hl (by decide) rfl (fun ls hl => ?_)
  refine lv_aload_n hx hb dX10_clear_10 rfl (lv_at hl 1 rfl) ?_
  refine lv_iconst (v := 0) hx hb dX10_clear_11 (by decide) ?_
  obtain ⟨f3, ef3, hf⟩ := sq_out hf
  refine va_put (D := D) (ci := 10) (v := .int 0) (ty := .int) (C := RX10) (T := TX10) (N := 34) hx hb hts hiX10 tyX10 tyX10_ok nmX10 hown hK hP (dR hj f1 t) hS 0 rfl rfl 3 (by decide) lk76 (fun _ h9 => h9) rfl (by decide +kernel) rfl rfl (Nat.le_of_ble_eq_true rfl) dX10_clear_12 (fun H locs hP _ hS => ?_)
  have hP := sR_0_3 ef3 hP
  refine lv_iload_n hx hb dX10_clear_15 rfl (lv_at hl 0 rfl) ?_
  obtain ⟨rfl, rfl⟩ := Prod.mk.inj (Option.some.inj hf)
  exact kr H locs ls 16 dX10_clear_16 hP hS
set_option maxHeartbeats 4000000 in
set_option maxRecDepth 100000 in
theorem c_X10_clear (hj : jR ad) (l : Launch)  (f : mM) (t : Int64) (r : Int32) (fR : mM) (hf : q_X10_clear f = some (r, fR)) : Met l yX10_clear wsX10_clear ({ frames := 0, cells := 0, slots := 0, locals := 0 }) (va_Pc ([.ref (ad 0)]) (pre D cy (wR ad cy) (xR) f t)) (va_Qi (fun (r2 : Int32) (u : mM × Int64) => r2 = r ∧ u = (fR, t)) (atW D (wR ad cy)) (aR ad)) 0 0 (aR ad) := by
  refine Met.ofW (cc := cX10_clear) (maxL := 2) (ret := (some .int)) (by decide) rfl ?_
  intro p e s m args below meth c s₁ B hml hv
  obtain ⟨rfl, hP, hK, hX0⟩ := hv
  have hl := lv_entry ([.ref (ad 0)]) (n := 2) (Nat.le_of_ble_eq_true rfl)
  rw [lg_entry_eq]
  generalize (lg_sl ([.ref (ad 0)]) ++ List.replicate (2 - (lg_sl ([.ref (ad 0)])).length) Slot.unset).toArray = ls at hl ⊢
  have hlocks := B.notSynchronized
  exact b_X10_clear ⟨B.exec, B.bytes, B.returns, hml, findClass_of_methodNamed B.named, atoms_spec (ws := wsX10_clear) B.pre, hlocks, hK, hX0⟩ hj ⟨Nat.le_refl _, Nat.le_refl _⟩  f t r fR hf (fun H locs ls pc hd hP hS => W.iret B.exec B.bytes B.returns (fun t2 ht hW => ⟨⟨r, (fR, t), rfl, ⟨rfl, rfl⟩, by show va_P D vwCl _ t2.heap; rw [ht]; exact hP⟩, hS.F ht⟩) hS.2.2 hd) s.heap [] ls hP va_S.rf hl
def q_X10_byteAt (x1 : Int32) (f : mM) : Option (Int32) := if (f 0 3) ≤ x1 then some (-1) else gi x1 300 (some (f 1 (Int32.toNatClampNeg x1)))
set_option maxHeartbeats 4000000 in
set_option maxRecDepth 100000 in
theorem b_X10_byteAt (C0 : cX p s m args meth c cX10_byteAt 2 (some .int) RX10 wsX10_byteAt D cy (xR)) (hj : jR ad) (hR : 0 ≤ R.frames ∧ 0 ≤ R.locals) (x1 : Int32) (f : mM) (t : Int64) (r : Int32) (hf : q_X10_byteAt x1 f = some r) (kr : ∀ (H : Heap) (locs : List Loc) (ls : Array Slot) (pc : Nat), decode cX10_byteAt pc = .ok (.ireturn, 1) → va_P D vwCl (wR ad cy f t) H → va_S (aR ad) s.heap H locs → W p l e R s m args below meth c H locs 0 0 Q (F0 m pc ls [.int r])) (H : Heap) (locs : List Loc) (ls : Array Slot) (hP : va_P D vwCl (wR ad cy f t) H) (hS : va_S (aR ad) s.heap H locs) (hl : lv_has ls 2 [(0, .ref (ad 0)), (1, .int x1)]) : W p l e R s m args below meth c H locs 0 0 Q (F0 m 0 ls []) := by
  obtain ⟨hx, hb, hr, hml, hown, hts, hlocks, hK, hX0⟩ := id C0
  have lk76 := hts (.fieldLink RX10 76 "PlankNineModel" "typed" "I") (List.mem_of_getElem? (i := 1) rfl)
  have hiX10 : ∀ w ∈ u_ws RX10 TX10 34, w ∈ wsX10_byteAt := fun w h => List.mem_cons_of_mem _ (List.mem_append_right _ h)
  have lk7 := hts (.fieldLink RX10 7 "PlankNineModel" "text" "[I") (List.mem_of_getElem? (i := 2) rfl)
  unfold q_X10_byteAt at hf
  refine lv_iload_n hx hb dX10_byteAt_0 rfl (lv_at hl 1 rfl) ?_
  refine lv_aload_n hx hb dX10_byteAt_1 rfl (lv_at hl 0 rfl) ?_
  refine va_get (D := D) (ci := 10) (v := .int (f 0 3)) (C := RX10) (T := TX10) (N := 34) hx hb hts hiX10 hown hK hP 0 rfl rfl 3 (by decide) lk76 (fun _ h9 => h9) rfl dX10_byteAt_2 ?_
  refine lv_icmp_ge (tgt := 17) hx hb dX10_byteAt_5 (by decide) (fun c5 => ?_) (fun c5 => ?_)
  · have hf := itT hf c5
    refine lv_iconst (v := (-1)) hx hb dX10_byteAt_17 (by decide) ?_
    obtain rfl := Option.some.inj hf
    exact kr H locs ls 18 dX10_byteAt_18 hP hS
  · have hf := itF hf c5
    refine lv_aload_n hx hb dX10_byteAt_8 rfl (lv_at hl 0 rfl) ?_
    refine va_get (D := D) (ci := 10) (v := .ref (ad 1)) (C := RX10) (T := TX10) (N := 34) hx hb hts hiX10 hown hK hP 0 rfl rfl 2 (by decide) lk7 (fun _ h9 => h9) rfl dX10_byteAt_9 ?_
    refine lv_iload_n hx hb dX10_byteAt_12 rfl (lv_at hl 1 rfl) ?_
    obtain ⟨hin1, hf⟩ := gi_out hf
    refine va_iald hx hb hK hP 1 1 rfl rfl hin1 dX10_byteAt_13 ?_
    refine lv_goto (tgt := 18) hx hb dX10_byteAt_14 (by decide) ?_
    obtain rfl := Option.some.inj hf
    exact kr H locs ls 18 dX10_byteAt_18 hP hS
set_option maxHeartbeats 4000000 in
set_option maxRecDepth 100000 in
theorem c_X10_byteAt (hj : jR ad) (l : Launch) (x1 : Int32) (f : mM) (t : Int64) (r : Int32) (hf : q_X10_byteAt x1 f = some r) : Met l yX10_byteAt wsX10_byteAt ({ frames := 0, cells := 0, slots := 0, locals := 0 }) (va_Pc ([.ref (ad 0), .int x1]) (pre D cy (wR ad cy) (xR) f t)) (va_Qi (fun (r2 : Int32) (u : mM × Int64) => r2 = r ∧ u = (f, t)) (atW D (wR ad cy)) (aR ad)) 0 0 (aR ad) := by
  refine Met.ofW (cc := cX10_byteAt) (maxL := 2) (ret := (some .int)) (by decide) rfl ?_
  intro p e s m args below meth c s₁ B hml hv
  obtain ⟨rfl, hP, hK, hX0⟩ := hv
  have hl := lv_entry ([.ref (ad 0), .int x1]) (n := 2) (Nat.le_of_ble_eq_true rfl)
  rw [lg_entry_eq]
  generalize (lg_sl ([.ref (ad 0), .int x1]) ++ List.replicate (2 - (lg_sl ([.ref (ad 0), .int x1])).length) Slot.unset).toArray = ls at hl ⊢
  have hlocks := B.notSynchronized
  exact b_X10_byteAt ⟨B.exec, B.bytes, B.returns, hml, findClass_of_methodNamed B.named, atoms_spec (ws := wsX10_byteAt) B.pre, hlocks, hK, hX0⟩ hj ⟨Nat.le_refl _, Nat.le_refl _⟩ x1 f t r hf (fun H locs ls pc hd hP hS => W.iret B.exec B.bytes B.returns (fun t2 ht hW => ⟨⟨r, (f, t), rfl, ⟨rfl, rfl⟩, by show va_P D vwCl _ t2.heap; rw [ht]; exact hP⟩, hS.F ht⟩) hS.2.2 hd) s.heap [] ls hP va_S.rf hl
def q_X10_add (x0 : Int64) (x2 : Int32) : Option (Int64) := if x2 = 0 then some x0 else some ((256 * x0) + (Int32.toInt64 x2))
set_option maxHeartbeats 4000000 in
set_option maxRecDepth 100000 in
theorem b_X10_add (C0 : cX p s m args meth c cX10_add 3 (some .long) RX10 wsX10_add D cy (xR)) (hj : jR ad) (hR : 0 ≤ R.frames ∧ 0 ≤ R.locals) (x0 : Int64) (x2 : Int32) (f : mM) (t : Int64) (r : Int64) (hf : q_X10_add x0 x2 = some r) (kr : ∀ (H : Heap) (locs : List Loc) (ls : Array Slot) (pc : Nat), decode cX10_add pc = .ok (.lreturn, 1) → va_P D vwCl (wR ad cy f t) H → va_S (aR ad) s.heap H locs → W p l e R s m args below meth c H locs 0 0 Q (F0 m pc ls [.long r])) (H : Heap) (locs : List Loc) (ls : Array Slot) (hP : va_P D vwCl (wR ad cy f t) H) (hS : va_S (aR ad) s.heap H locs) (hl : lv_has ls 3 [(0, .long x0), (2, .int x2)]) : W p l e R s m args below meth c H locs 0 0 Q (F0 m 0 ls []) := by
  obtain ⟨hx, hb, hr, hml, hown, hts, hlocks, hK, hX0⟩ := id C0
  unfold q_X10_add at hf
  refine lv_iload_n hx hb dX10_add_0 rfl (lv_at hl 1 rfl) ?_
  refine lv_if_ne (tgt := 8) hx hb dX10_add_1 (by decide) (fun c1 => ?_) (fun c1 => ?_)
  · have hf := itF hf c1
    refine lv_ldc2 (v := 256) hx hb hown (hts (.constantLong RX10 81 (256)) (List.mem_of_getElem? (i := 1) rfl)) dX10_add_8 ?_
    refine lv_lload_n hx hb dX10_add_11 rfl (lv_at hl 0 rfl) ?_
    refine lv_lmul hx hb dX10_add_12 ?_
    refine lv_iload_n hx hb dX10_add_13 rfl (lv_at hl 1 rfl) ?_
    refine lv_i2l hx hb dX10_add_14 rfl ?_
    refine lv_ladd hx hb dX10_add_15 ?_
    obtain rfl := Option.some.inj hf
    exact kr H locs ls 16 dX10_add_16 hP hS
  · have hf := itT hf c1
    refine lv_lload_n hx hb dX10_add_4 rfl (lv_at hl 0 rfl) ?_
    refine lv_goto (tgt := 16) hx hb dX10_add_5 (by decide) ?_
    obtain rfl := Option.some.inj hf
    exact kr H locs ls 16 dX10_add_16 hP hS
set_option maxHeartbeats 4000000 in
set_option maxRecDepth 100000 in
theorem c_X10_add (hj : jR ad) (l : Launch) (x0 : Int64) (x2 : Int32) (f : mM) (t : Int64) (r : Int64) (hf : q_X10_add x0 x2 = some r) : Met l yX10_add wsX10_add ({ frames := 0, cells := 0, slots := 0, locals := 0 }) (va_Pc ([.long x0, .int x2]) (pre D cy (wR ad cy) (xR) f t)) (va_Ql (fun (r2 : Int64) (u : mM × Int64) => r2 = r ∧ u = (f, t)) (atW D (wR ad cy)) (aR ad)) 0 0 (aR ad) := by
  refine Met.ofW (cc := cX10_add) (maxL := 3) (ret := (some .long)) (by decide) rfl ?_
  intro p e s m args below meth c s₁ B hml hv
  obtain ⟨rfl, hP, hK, hX0⟩ := hv
  have hl := lv_entry ([.long x0, .int x2]) (n := 3) (Nat.le_of_ble_eq_true rfl)
  rw [lg_entry_eq]
  generalize (lg_sl ([.long x0, .int x2]) ++ List.replicate (3 - (lg_sl ([.long x0, .int x2])).length) Slot.unset).toArray = ls at hl ⊢
  have hlocks := B.notSynchronized
  exact b_X10_add ⟨B.exec, B.bytes, B.returns, hml, findClass_of_methodNamed B.named, atoms_spec (ws := wsX10_add) B.pre, hlocks, hK, hX0⟩ hj ⟨Nat.le_refl _, Nat.le_refl _⟩ x0 x2 f t r hf (fun H locs ls pc hd hP hS => W.lret B.exec B.bytes B.returns (fun t2 ht hW => ⟨⟨r, (f, t), rfl, ⟨rfl, rfl⟩, by show va_P D vwCl _ t2.heap; rw [ht]; exact hP⟩, hS.F ht⟩) hS.2.2 hd) s.heap [] ls hP va_S.rf hl
def q_X10_named (x0 : Int32) (x1 : Int32) (x2 : Int32) (x3 : Int32) (x4 : Int32) (x5 : Int32) : Option (Int64) := bi (q_X10_add 0 x0) (fun y1 => bi (q_X10_add y1 x1) (fun y3 => bi (q_X10_add y3 x2) (fun y5 => bi (q_X10_add y5 x3) (fun y7 => bi (q_X10_add y7 x4) (fun y9 => bi (q_X10_add y9 x5) (fun y11 => some y11))))))
set_option maxHeartbeats 4000000 in
set_option maxRecDepth 100000 in
theorem b_X10_named (C0 : cX p s m args meth c cX10_named 6 (some .long) RX10 wsX10_named D cy (xR)) (hj : jR ad) (hR : 1 ≤ R.frames ∧ 22 ≤ R.locals) (x0 : Int32) (x1 : Int32) (x2 : Int32) (x3 : Int32) (x4 : Int32) (x5 : Int32) (f : mM) (t : Int64) (r : Int64) (hf : q_X10_named x0 x1 x2 x3 x4 x5 = some r) (kr : ∀ (H : Heap) (locs : List Loc) (ls : Array Slot) (pc : Nat), decode cX10_named pc = .ok (.lreturn, 1) → va_P D vwCl (wR ad cy f t) H → va_S (aR ad) s.heap H locs → W p l e R s m args below meth c H locs 0 0 Q (F0 m pc ls [.long r])) (H : Heap) (locs : List Loc) (ls : Array Slot) (hP : va_P D vwCl (wR ad cy f t) H) (hS : va_S (aR ad) s.heap H locs) (hl : lv_has ls 6 [(0, .int x0), (1, .int x1), (2, .int x2), (3, .int x3), (4, .int x4), (5, .int x5)]) : W p l e R s m args below meth c H locs 0 0 Q (F0 m 0 ls []) := by
  obtain ⟨hx, hb, hr, hml, hown, hts, hlocks, hK, hX0⟩ := id C0
  unfold q_X10_named at hf
  refine lv_lconst (v := 0) hx hb dX10_named_0 (by decide) ?_
  refine lv_iload_n hx hb dX10_named_1 rfl (lv_at hl 0 rfl) ?_
  obtain ⟨y1, hq2, hf⟩ := bi_out hf
  refine cw_sl (As := [.long 0, .int x0]) (rest := []) ⟨hx, hb, hml, hown, hts⟩ xR_S hK hX0 hS hP (c_X10_add hj l 0 x0 f t y1 hq2) (va_cwS 2 hts gX10_named_X10_add rfl rfl rfl (by decide +kernel) ⟨Nat.le_trans (Nat.le_of_ble_eq_true rfl) hR.1, Nat.le_trans (Nat.le_of_ble_eq_true rfl) hR.2⟩) rfl hl.1 rfl (Nat.le_of_ble_eq_true rfl) ⟨Nat.zero_le _, Nat.zero_le _⟩ dX10_named_2 (fun H locs hP hS => ?_)
  refine lv_iload_n hx hb dX10_named_5 rfl (lv_at hl 1 rfl) ?_
  obtain ⟨y3, hq4, hf⟩ := bi_out hf
  refine cw_sl (As := [.long y1, .int x1]) (rest := []) ⟨hx, hb, hml, hown, hts⟩ xR_S hK hX0 hS hP (c_X10_add hj l y1 x1 f t y3 hq4) (va_cwS 2 hts gX10_named_X10_add rfl rfl rfl (by decide +kernel) ⟨Nat.le_trans (Nat.le_of_ble_eq_true rfl) hR.1, Nat.le_trans (Nat.le_of_ble_eq_true rfl) hR.2⟩) rfl hl.1 rfl (Nat.le_of_ble_eq_true rfl) ⟨Nat.zero_le _, Nat.zero_le _⟩ dX10_named_6 (fun H locs hP hS => ?_)
  refine lv_iload_n hx hb dX10_named_9 rfl (lv_at hl 2 rfl) ?_
  obtain ⟨y5, hq6, hf⟩ := bi_out hf
  refine cw_sl (As := [.long y3, .int x2]) (rest := []) ⟨hx, hb, hml, hown, hts⟩ xR_S hK hX0 hS hP (c_X10_add hj l y3 x2 f t y5 hq6) (va_cwS 2 hts gX10_named_X10_add rfl rfl rfl (by decide +kernel) ⟨Nat.le_trans (Nat.le_of_ble_eq_true rfl) hR.1, Nat.le_trans (Nat.le_of_ble_eq_true rfl) hR.2⟩) rfl hl.1 rfl (Nat.le_of_ble_eq_true rfl) ⟨Nat.zero_le _, Nat.zero_le _⟩ dX10_named_10 (fun H locs hP hS => ?_)
  refine lv_iload_n hx hb dX10_named_13 rfl (lv_at hl 3 rfl) ?_
  obtain ⟨y7, hq8, hf⟩ := bi_out hf
  refine cw_sl (As := [.long y5, .int x3]) (rest := []) ⟨hx, hb, hml, hown, hts⟩ xR_S hK hX0 hS hP (c_X10_add hj l y5 x3 f t y7 hq8) (va_cwS 2 hts gX10_named_X10_add rfl rfl rfl (by decide +kernel) ⟨Nat.le_trans (Nat.le_of_ble_eq_true rfl) hR.1, Nat.le_trans (Nat.le_of_ble_eq_true rfl) hR.2⟩) rfl hl.1 rfl (Nat.le_of_ble_eq_true rfl) ⟨Nat.zero_le _, Nat.zero_le _⟩ dX10_named_14 (fun H locs hP hS => ?_)
  refine lv_iload hx hb dX10_named_17 (lv_at hl 4 rfl) ?_
  obtain ⟨y9, hq10, hf⟩ := bi_out hf
  refine cw_sl (As := [.long y7, .int x4]) (rest := []) ⟨hx, hb, hml, hown, hts⟩ xR_S hK hX0 hS hP (c_X10_add hj l y7 x4 f t y9 hq10) (va_cwS 2 hts gX10_named_X10_add rfl rfl rfl (by decide +kernel) ⟨Nat.le_trans (Nat.le_of_ble_eq_true rfl) hR.1, Nat.le_trans (Nat.le_of_ble_eq_true rfl) hR.2⟩) rfl hl.1 rfl (Nat.le_of_ble_eq_true rfl) ⟨Nat.zero_le _, Nat.zero_le _⟩ dX10_named_19 (fun H locs hP hS => ?_)
  refine lv_iload hx hb dX10_named_22 (lv_at hl 5 rfl) ?_
  obtain ⟨y11, hq12, hf⟩ := bi_out hf
  refine cw_sl (As := [.long y9, .int x5]) (rest := []) ⟨hx, hb, hml, hown, hts⟩ xR_S hK hX0 hS hP (c_X10_add hj l y9 x5 f t y11 hq12) (va_cwS 2 hts gX10_named_X10_add rfl rfl rfl (by decide +kernel) ⟨Nat.le_trans (Nat.le_of_ble_eq_true rfl) hR.1, Nat.le_trans (Nat.le_of_ble_eq_true rfl) hR.2⟩) rfl hl.1 rfl (Nat.le_of_ble_eq_true rfl) ⟨Nat.zero_le _, Nat.zero_le _⟩ dX10_named_24 (fun H locs hP hS => ?_)
  obtain rfl := Option.some.inj hf
  exact kr H locs ls 27 dX10_named_27 hP hS
set_option maxHeartbeats 4000000 in
set_option maxRecDepth 100000 in
theorem c_X10_named (hj : jR ad) (l : Launch) (x0 : Int32) (x1 : Int32) (x2 : Int32) (x3 : Int32) (x4 : Int32) (x5 : Int32) (f : mM) (t : Int64) (r : Int64) (hf : q_X10_named x0 x1 x2 x3 x4 x5 = some r) : Met l yX10_named wsX10_named ({ frames := 1, cells := 0, slots := 0, locals := 22 }) (va_Pc ([.int x0, .int x1, .int x2, .int x3, .int x4, .int x5]) (pre D cy (wR ad cy) (xR) f t)) (va_Ql (fun (r2 : Int64) (u : mM × Int64) => r2 = r ∧ u = (f, t)) (atW D (wR ad cy)) (aR ad)) 0 0 (aR ad) := by
  refine Met.ofW (cc := cX10_named) (maxL := 6) (ret := (some .long)) (by decide) rfl ?_
  intro p e s m args below meth c s₁ B hml hv
  obtain ⟨rfl, hP, hK, hX0⟩ := hv
  have hl := lv_entry ([.int x0, .int x1, .int x2, .int x3, .int x4, .int x5]) (n := 6) (Nat.le_of_ble_eq_true rfl)
  rw [lg_entry_eq]
  generalize (lg_sl ([.int x0, .int x1, .int x2, .int x3, .int x4, .int x5]) ++ List.replicate (6 - (lg_sl ([.int x0, .int x1, .int x2, .int x3, .int x4, .int x5])).length) Slot.unset).toArray = ls at hl ⊢
  have hlocks := B.notSynchronized
  exact b_X10_named ⟨B.exec, B.bytes, B.returns, hml, findClass_of_methodNamed B.named, atoms_spec (ws := wsX10_named) B.pre, hlocks, hK, hX0⟩ hj ⟨Nat.le_refl _, Nat.le_refl _⟩ x0 x1 x2 x3 x4 x5 f t r hf (fun H locs ls pc hd hP hS => W.lret B.exec B.bytes B.returns (fun t2 ht hW => ⟨⟨r, (f, t), rfl, ⟨rfl, rfl⟩, by show va_P D vwCl _ t2.heap; rw [ht]; exact hP⟩, hS.F ht⟩) hS.2.2 hd) s.heap [] ls hP va_S.rf hl
def q_X10_wordOf (x0 : Int64) : Option (Int32) := bi (q_X10_named 109 97 114 115 104 0) (fun y1 => sq (fun (v3 : Int32) => if v3 = (-9) then bi (q_X10_named 112 101 114 115 111 110) (fun y5 => if (lg_cmp x0 y5) = 0 then some 2 else bi (q_X10_named 101 114 114 97 110 100) (fun y7 => if (lg_cmp x0 y7) = 0 then some 3 else some (-9))) else some v3) (fun k4 => if (lg_cmp x0 y1) = 0 then k4 0 else bi (q_X10_named 112 108 97 110 107 0) (fun y9 => if (lg_cmp x0 y9) = 0 then k4 1 else k4 (-9))))
set_option maxHeartbeats 4000000 in
set_option maxRecDepth 100000 in
theorem b_X10_wordOf (C0 : cX p s m args meth c cX10_wordOf 3 (some .int) RX10 wsX10_wordOf D cy (xR)) (hj : jR ad) (hR : 2 ≤ R.frames ∧ 47 ≤ R.locals) (x0 : Int64) (f : mM) (t : Int64) (r : Int32) (hf : q_X10_wordOf x0 = some r) (kr : ∀ (H : Heap) (locs : List Loc) (ls : Array Slot) (pc : Nat), decode cX10_wordOf pc = .ok (.ireturn, 1) → va_P D vwCl (wR ad cy f t) H → va_S (aR ad) s.heap H locs → W p l e R s m args below meth c H locs 0 0 Q (F0 m pc ls [.int r])) (H : Heap) (locs : List Loc) (ls : Array Slot) (hP : va_P D vwCl (wR ad cy f t) H) (hS : va_S (aR ad) s.heap H locs) (hl : lv_has ls 3 [(0, .long x0)]) : W p l e R s m args below meth c H locs 0 0 Q (F0 m 0 ls []) := by
  obtain ⟨hx, hb, hr, hml, hown, hts, hlocks, hK, hX0⟩ := id C0
  unfold q_X10_wordOf at hf
  refine lv_lload_n hx hb dX10_wordOf_0 rfl (lv_at hl 0 rfl) ?_
  refine lv_bipush (v := 109) hx hb dX10_wordOf_1 (by decide) ?_
  refine lv_bipush (v := 97) hx hb dX10_wordOf_3 (by decide) ?_
  refine lv_bipush (v := 114) hx hb dX10_wordOf_5 (by decide) ?_
  refine lv_bipush (v := 115) hx hb dX10_wordOf_7 (by decide) ?_
  refine lv_bipush (v := 104) hx hb dX10_wordOf_9 (by decide) ?_
  refine lv_iconst (v := 0) hx hb dX10_wordOf_11 (by decide) ?_
  obtain ⟨y1, hq2, hf⟩ := bi_out hf
  refine cw_sl (As := [.int 109, .int 97, .int 114, .int 115, .int 104, .int 0]) (rest := [.long x0]) ⟨hx, hb, hml, hown, hts⟩ xR_S hK hX0 hS hP (c_X10_named hj l 109 97 114 115 104 0 f t y1 hq2) (va_cwS 6 hts gX10_wordOf_X10_named rfl rfl rfl (by decide +kernel) ⟨Nat.le_trans (Nat.le_of_ble_eq_true rfl) hR.1, Nat.le_trans (Nat.le_of_ble_eq_true rfl) hR.2⟩) rfl hl.1 rfl (Nat.le_of_ble_eq_true rfl) ⟨Nat.zero_le _, Nat.zero_le _⟩ dX10_wordOf_12 (fun H locs hP hS => ?_)
  refine W.lcmp hx hb dX10_wordOf_15 ?_
  obtain ⟨k4, ek4, hf⟩ := sq_out hf
  have hk4 : ∀ (v3 : Int32), k4 v3 = some r → ∀ (H : Heap) (locs : List Loc) (ls : Array Slot), va_P D vwCl (wR ad cy f t) H → va_S (aR ad) s.heap H locs → lv_has ls 3 [(0, .long x0)] → W p l e R s m args below meth c H locs 0 0 Q (F0 m 48 ls [.int v3]) := by
    intro v3 hf H locs ls hP hS hl
    have hf := sk1 ek4 v3 hf
    refine lv_istore_n (lv' := [(2, .int v3), (0, .long x0)]) hx hb dX10_wordOf_48 rfl hl (by decide) rfl (fun ls hl => ?_)
    refine lv_iload_n hx hb dX10_wordOf_49 rfl (lv_at hl 0 rfl) ?_
    refine lv_bipush (v := (-9)) hx hb dX10_wordOf_50 (by decide) ?_
    refine lv_icmp_eq (tgt := 59) hx hb dX10_wordOf_52 (by decide) (fun c52 => ?_) (fun c52 => ?_)
    · have hf := itT hf c52
      refine lv_lload_n hx hb dX10_wordOf_59 rfl (lv_at hl 1 rfl) ?_
      refine lv_bipush (v := 112) hx hb dX10_wordOf_60 (by decide) ?_
      refine lv_bipush (v := 101) hx hb dX10_wordOf_62 (by decide) ?_
      refine lv_bipush (v := 114) hx hb dX10_wordOf_64 (by decide) ?_
      refine lv_bipush (v := 115) hx hb dX10_wordOf_66 (by decide) ?_
      refine lv_bipush (v := 111) hx hb dX10_wordOf_68 (by decide) ?_
      refine lv_bipush (v := 110) hx hb dX10_wordOf_70 (by decide) ?_
      obtain ⟨y5, hq6, hf⟩ := bi_out hf
      refine cw_sl (As := [.int 112, .int 101, .int 114, .int 115, .int 111, .int 110]) (rest := [.long x0]) ⟨hx, hb, hml, hown, hts⟩ xR_S hK hX0 hS hP (c_X10_named hj l 112 101 114 115 111 110 f t y5 hq6) (va_cwS 6 hts gX10_wordOf_X10_named rfl rfl rfl (by decide +kernel) ⟨Nat.le_trans (Nat.le_of_ble_eq_true rfl) hR.1, Nat.le_trans (Nat.le_of_ble_eq_true rfl) hR.2⟩) rfl hl.1 rfl (Nat.le_of_ble_eq_true rfl) ⟨Nat.zero_le _, Nat.zero_le _⟩ dX10_wordOf_72 (fun H locs hP hS => ?_)
      refine W.lcmp hx hb dX10_wordOf_75 ?_
      refine lv_if_ne (tgt := 83) hx hb dX10_wordOf_76 (by decide) (fun c76 => ?_) (fun c76 => ?_)
      · have hf := itF hf c76
        refine lv_lload_n hx hb dX10_wordOf_83 rfl (lv_at hl 1 rfl) ?_
        refine lv_bipush (v := 101) hx hb dX10_wordOf_84 (by decide) ?_
        refine lv_bipush (v := 114) hx hb dX10_wordOf_86 (by decide) ?_
        refine lv_bipush (v := 114) hx hb dX10_wordOf_88 (by decide) ?_
        refine lv_bipush (v := 97) hx hb dX10_wordOf_90 (by decide) ?_
        refine lv_bipush (v := 110) hx hb dX10_wordOf_92 (by decide) ?_
        refine lv_bipush (v := 100) hx hb dX10_wordOf_94 (by decide) ?_
        obtain ⟨y7, hq8, hf⟩ := bi_out hf
        refine cw_sl (As := [.int 101, .int 114, .int 114, .int 97, .int 110, .int 100]) (rest := [.long x0]) ⟨hx, hb, hml, hown, hts⟩ xR_S hK hX0 hS hP (c_X10_named hj l 101 114 114 97 110 100 f t y7 hq8) (va_cwS 6 hts gX10_wordOf_X10_named rfl rfl rfl (by decide +kernel) ⟨Nat.le_trans (Nat.le_of_ble_eq_true rfl) hR.1, Nat.le_trans (Nat.le_of_ble_eq_true rfl) hR.2⟩) rfl hl.1 rfl (Nat.le_of_ble_eq_true rfl) ⟨Nat.zero_le _, Nat.zero_le _⟩ dX10_wordOf_96 (fun H locs hP hS => ?_)
        refine W.lcmp hx hb dX10_wordOf_99 ?_
        refine lv_if_ne (tgt := 107) hx hb dX10_wordOf_100 (by decide) (fun c100 => ?_) (fun c100 => ?_)
        · have hf := itF hf c100
          refine lv_bipush (v := (-9)) hx hb dX10_wordOf_107 (by decide) ?_
          obtain rfl := Option.some.inj hf
          exact kr H locs ls 109 dX10_wordOf_109 hP hS
        · have hf := itT hf c100
          refine lv_iconst (v := 3) hx hb dX10_wordOf_103 (by decide) ?_
          refine lv_goto (tgt := 109) hx hb dX10_wordOf_104 (by decide) ?_
          obtain rfl := Option.some.inj hf
          exact kr H locs ls 109 dX10_wordOf_109 hP hS
      · have hf := itT hf c76
        refine lv_iconst (v := 2) hx hb dX10_wordOf_79 (by decide) ?_
        refine lv_goto (tgt := 109) hx hb dX10_wordOf_80 (by decide) ?_
        obtain rfl := Option.some.inj hf
        exact kr H locs ls 109 dX10_wordOf_109 hP hS
    · have hf := itF hf c52
      refine lv_iload_n hx hb dX10_wordOf_55 rfl (lv_at hl 0 rfl) ?_
      refine lv_goto (tgt := 109) hx hb dX10_wordOf_56 (by decide) ?_
      obtain rfl := Option.some.inj hf
      exact kr H locs ls 109 dX10_wordOf_109 hP hS
  refine lv_if_ne (tgt := 23) hx hb dX10_wordOf_16 (by decide) (fun c16 => ?_) (fun c16 => ?_)
  · have hf := itF hf c16
    refine lv_lload_n hx hb dX10_wordOf_23 rfl (lv_at hl 0 rfl) ?_
    refine lv_bipush (v := 112) hx hb dX10_wordOf_24 (by decide) ?_
    refine lv_bipush (v := 108) hx hb dX10_wordOf_26 (by decide) ?_
    refine lv_bipush (v := 97) hx hb dX10_wordOf_28 (by decide) ?_
    refine lv_bipush (v := 110) hx hb dX10_wordOf_30 (by decide) ?_
    refine lv_bipush (v := 107) hx hb dX10_wordOf_32 (by decide) ?_
    refine lv_iconst (v := 0) hx hb dX10_wordOf_34 (by decide) ?_
    obtain ⟨y9, hq10, hf⟩ := bi_out hf
    refine cw_sl (As := [.int 112, .int 108, .int 97, .int 110, .int 107, .int 0]) (rest := [.long x0]) ⟨hx, hb, hml, hown, hts⟩ xR_S hK hX0 hS hP (c_X10_named hj l 112 108 97 110 107 0 f t y9 hq10) (va_cwS 6 hts gX10_wordOf_X10_named rfl rfl rfl (by decide +kernel) ⟨Nat.le_trans (Nat.le_of_ble_eq_true rfl) hR.1, Nat.le_trans (Nat.le_of_ble_eq_true rfl) hR.2⟩) rfl hl.1 rfl (Nat.le_of_ble_eq_true rfl) ⟨Nat.zero_le _, Nat.zero_le _⟩ dX10_wordOf_35 (fun H locs hP hS => ?_)
    refine W.lcmp hx hb dX10_wordOf_38 ?_
    refine lv_if_ne (tgt := 46) hx hb dX10_wordOf_39 (by decide) (fun c39 => ?_) (fun c39 => ?_)
    · have hf := itF hf c39
      refine lv_bipush (v := (-9)) hx hb dX10_wordOf_46 (by decide) ?_
      exact hk4 (-9) hf H locs ls hP hS (lv_sub hl [0] rfl)
    · have hf := itT hf c39
      refine lv_iconst (v := 1) hx hb dX10_wordOf_42 (by decide) ?_
      refine lv_goto (tgt := 48) hx hb dX10_wordOf_43 (by decide) ?_
      exact hk4 1 hf H locs ls hP hS (lv_sub hl [0] rfl)
  · have hf := itT hf c16
    refine lv_iconst (v := 0) hx hb dX10_wordOf_19 (by decide) ?_
    refine lv_goto (tgt := 48) hx hb dX10_wordOf_20 (by decide) ?_
    exact hk4 0 hf H locs ls hP hS (lv_sub hl [0] rfl)
set_option maxHeartbeats 4000000 in
set_option maxRecDepth 100000 in
theorem c_X10_wordOf (hj : jR ad) (l : Launch) (x0 : Int64) (f : mM) (t : Int64) (r : Int32) (hf : q_X10_wordOf x0 = some r) : Met l yX10_wordOf wsX10_wordOf ({ frames := 2, cells := 0, slots := 0, locals := 47 }) (va_Pc ([.long x0]) (pre D cy (wR ad cy) (xR) f t)) (va_Qi (fun (r2 : Int32) (u : mM × Int64) => r2 = r ∧ u = (f, t)) (atW D (wR ad cy)) (aR ad)) 0 0 (aR ad) := by
  refine Met.ofW (cc := cX10_wordOf) (maxL := 3) (ret := (some .int)) (by decide) rfl ?_
  intro p e s m args below meth c s₁ B hml hv
  obtain ⟨rfl, hP, hK, hX0⟩ := hv
  have hl := lv_entry ([.long x0]) (n := 3) (Nat.le_of_ble_eq_true rfl)
  rw [lg_entry_eq]
  generalize (lg_sl ([.long x0]) ++ List.replicate (3 - (lg_sl ([.long x0])).length) Slot.unset).toArray = ls at hl ⊢
  have hlocks := B.notSynchronized
  exact b_X10_wordOf ⟨B.exec, B.bytes, B.returns, hml, findClass_of_methodNamed B.named, atoms_spec (ws := wsX10_wordOf) B.pre, hlocks, hK, hX0⟩ hj ⟨Nat.le_refl _, Nat.le_refl _⟩ x0 f t r hf (fun H locs ls pc hd hP hS => W.iret B.exec B.bytes B.returns (fun t2 ht hW => ⟨⟨r, (f, t), rfl, ⟨rfl, rfl⟩, by show va_P D vwCl _ t2.heap; rw [ht]; exact hP⟩, hS.F ht⟩) hS.2.2 hd) s.heap [] ls hP va_S.rf hl
def lp_X10_advances_0 (N : Nat)  : Nat → mM → Option (mM)
  | 0, _ => none
  | n + 1, f => bi (q_X10_byteAt (f 0 4) f) (fun y1 => if y1 = 32 then sq (st2 f 0 4 ((f 0 4) + 1)) (fun f3 => lp_X10_advances_0 N n f3) else some f)
theorem lp_X10_advances_0_s (N : Nat)  (n : Nat) (f : mM) : lp_X10_advances_0 N (n + 1) f = (bi (q_X10_byteAt (f 0 4) f) (fun y1 => if y1 = 32 then sq (st2 f 0 4 ((f 0 4) + 1)) (fun f3 => lp_X10_advances_0 N n f3) else some f)) := rfl
set_option maxHeartbeats 4000000 in
set_option maxRecDepth 100000 in
theorem lp_X10_advances_0_w (C0 : cX p s m args meth c cX10_advances 4 none RX10 wsX10_advances D cy (xR)) (hj : jR ad) (hR : 3 ≤ R.frames ∧ 69 ≤ R.locals) (N : Nat)  (t : Int64) (fR : mM) (kx26 : ∀ (H : Heap) (locs : List Loc) (ls : Array Slot), va_P D vwCl (wR ad cy fR t) H → va_S (aR ad) s.heap H locs → lv_has ls 4 [(0, .ref (ad 0))] → W p l e R s m args below meth c H locs 0 0 Q (F0 m 26 ls [])) : ∀ (n : Nat) (f : mM), lp_X10_advances_0 N n f = some fR → ∀ (H : Heap) (locs : List Loc) (ls : Array Slot), va_P D vwCl (wR ad cy f t) H → va_S (aR ad) s.heap H locs → lv_has ls 4 [(0, .ref (ad 0))] → W p l e R s m args below meth c H locs 0 0 Q (F0 m 0 ls []) := by
  obtain ⟨hx, hb, hr, hml, hown, hts, hlocks, hK, hX0⟩ := id C0
  have lk91 := hts (.fieldLink RX10 91 "PlankNineModel" "next" "I") (List.mem_of_getElem? (i := 1) rfl)
  have hiX10 : ∀ w ∈ u_ws RX10 TX10 34, w ∈ wsX10_advances := fun w h => List.mem_cons_of_mem _ (List.mem_append_right _ h)
  intro n
  induction n with
  | zero =>
    intro f hf
    exact no_none hf
  | succ n ih =>
    intro f hf H locs ls hP hS hl
    have hf := (lp_X10_advances_0_s N n f).symm.trans hf
    refine lv_aload_n hx hb dX10_advances_0 rfl (lv_at hl 0 rfl) ?_
    refine lv_aload_n hx hb dX10_advances_1 rfl (lv_at hl 0 rfl) ?_
    refine va_get (D := D) (ci := 10) (v := .int (f 0 4)) (C := RX10) (T := TX10) (N := 34) hx hb hts hiX10 hown hK hP 0 rfl rfl 4 (by decide) lk91 (fun _ h9 => h9) rfl dX10_advances_2 ?_
    obtain ⟨y1, hq2, hf⟩ := bi_out hf
    refine cw_vi (As := [.int (f 0 4)]) (rest := []) ⟨hx, hb, hml, hown, hts⟩ xR_S hK hX0 hS hP (c_X10_byteAt hj l (f 0 4) f t y1 hq2) (cwV 1 hts gX10_advances_X10_byteAt rfl rfl rfl (by decide +kernel) ⟨Nat.le_trans (Nat.le_of_ble_eq_true rfl) hR.1, Nat.le_trans (Nat.le_of_ble_eq_true rfl) hR.2⟩) (va_recv hK hP (ci := 10) (q0 := 0) rfl rfl) rfl hl.1 rfl (Nat.le_of_ble_eq_true rfl) ⟨Nat.zero_le _, Nat.zero_le _⟩ dX10_advances_5 (fun H locs hP hS => ?_)
    refine lv_bipush (v := 32) hx hb dX10_advances_8 (by decide) ?_
    refine lv_icmp_ne (tgt := 26) hx hb dX10_advances_10 (by decide) (fun c10 => ?_) (fun c10 => ?_)
    · have hf := itF hf c10
      obtain rfl := Option.some.inj hf
      exact kx26 H locs ls hP hS (lv_sub hl [0] rfl)
    · have hf := itT hf c10
      refine lv_aload_n hx hb dX10_advances_13 rfl (lv_at hl 0 rfl) ?_
      refine lv_dup hx hb dX10_advances_14 rfl ?_
      refine va_get (D := D) (ci := 10) (v := .int (f 0 4)) (C := RX10) (T := TX10) (N := 34) hx hb hts hiX10 hown hK hP 0 rfl rfl 4 (by decide) lk91 (fun _ h9 => h9) rfl dX10_advances_15 ?_
      refine lv_iconst (v := 1) hx hb dX10_advances_18 (by decide) ?_
      refine lv_iadd hx hb dX10_advances_19 ?_
      obtain ⟨f3, ef3, hf⟩ := sq_out hf
      refine va_put (D := D) (ci := 10) (v := .int ((f 0 4) + 1)) (ty := .int) (C := RX10) (T := TX10) (N := 34) hx hb hts hiX10 tyX10 tyX10_ok nmX10 hown hK hP (dR hj f t) hS 0 rfl rfl 4 (by decide) lk91 (fun _ h9 => h9) rfl (by decide +kernel) rfl rfl (Nat.le_of_ble_eq_true rfl) dX10_advances_20 (fun H locs hP _ hS => ?_)
      have hP := sR_0_4 ef3 hP
      refine lv_goto (tgt := 0) hx hb dX10_advances_23 (by decide) ?_
      exact ih f3 hf H locs ls hP hS (lv_sub hl [0] rfl)
def lp_X10_advances_175 (N : Nat) (x1 : Int32) : Nat → mM → Option (mM)
  | 0, _ => none
  | n + 1, f => bi (q_X10_byteAt (f 0 4) f) (fun y18 => bi (q_X10_in y18 48 57) (fun y20 => if y20 = 0 then some f else sq (fun (v22 : Int32) => sq (st2 f 0 7 v22) (fun f24 => sq (st2 f24 0 4 ((f24 0 4) + 1)) (fun f25 => lp_X10_advances_175 N x1 n f25))) (fun k23 => if (f 0 7) ≤ 99 then bi (q_X10_byteAt (f 0 4) f) (fun y26 => k23 (((10 * (f 0 7)) + y26) - 48)) else k23 (f 0 7))))
theorem lp_X10_advances_175_s (N : Nat) (x1 : Int32) (n : Nat) (f : mM) : lp_X10_advances_175 N x1 (n + 1) f = (bi (q_X10_byteAt (f 0 4) f) (fun y18 => bi (q_X10_in y18 48 57) (fun y20 => if y20 = 0 then some f else sq (fun (v22 : Int32) => sq (st2 f 0 7 v22) (fun f24 => sq (st2 f24 0 4 ((f24 0 4) + 1)) (fun f25 => lp_X10_advances_175 N x1 n f25))) (fun k23 => if (f 0 7) ≤ 99 then bi (q_X10_byteAt (f 0 4) f) (fun y26 => k23 (((10 * (f 0 7)) + y26) - 48)) else k23 (f 0 7))))) := rfl
set_option maxHeartbeats 4000000 in
set_option maxRecDepth 100000 in
theorem lp_X10_advances_175_w (C0 : cX p s m args meth c cX10_advances 4 none RX10 wsX10_advances D cy (xR)) (hj : jR ad) (hR : 3 ≤ R.frames ∧ 69 ≤ R.locals) (N : Nat) (x1 : Int32) (t : Int64) (fR : mM) (kx245 : ∀ (H : Heap) (locs : List Loc) (ls : Array Slot), va_P D vwCl (wR ad cy fR t) H → va_S (aR ad) s.heap H locs → lv_has ls 4 [(0, .ref (ad 0)), (1, .int x1)] → W p l e R s m args below meth c H locs 0 0 Q (F0 m 245 ls [])) : ∀ (n : Nat) (f : mM), lp_X10_advances_175 N x1 n f = some fR → ∀ (H : Heap) (locs : List Loc) (ls : Array Slot), va_P D vwCl (wR ad cy f t) H → va_S (aR ad) s.heap H locs → lv_has ls 4 [(0, .ref (ad 0)), (1, .int x1)] → W p l e R s m args below meth c H locs 0 0 Q (F0 m 175 ls []) := by
  obtain ⟨hx, hb, hr, hml, hown, hts, hlocks, hK, hX0⟩ := id C0
  have lk91 := hts (.fieldLink RX10 91 "PlankNineModel" "next" "I") (List.mem_of_getElem? (i := 1) rfl)
  have hiX10 : ∀ w ∈ u_ws RX10 TX10 34, w ∈ wsX10_advances := fun w h => List.mem_cons_of_mem _ (List.mem_append_right _ h)
  have lk108 := hts (.fieldLink RX10 108 "PlankNineModel" "value" "I") (List.mem_of_getElem? (i := 4) rfl)
  intro n
  induction n with
  | zero =>
    intro f hf
    exact no_none hf
  | succ n ih =>
    intro f hf H locs ls hP hS hl
    have hf := (lp_X10_advances_175_s N x1 n f).symm.trans hf
    refine lv_aload_n hx hb dX10_advances_175 rfl (lv_at hl 0 rfl) ?_
    refine lv_aload_n hx hb dX10_advances_176 rfl (lv_at hl 0 rfl) ?_
    refine va_get (D := D) (ci := 10) (v := .int (f 0 4)) (C := RX10) (T := TX10) (N := 34) hx hb hts hiX10 hown hK hP 0 rfl rfl 4 (by decide) lk91 (fun _ h9 => h9) rfl dX10_advances_177 ?_
    obtain ⟨y18, hq19, hf⟩ := bi_out hf
    refine cw_vi (As := [.int (f 0 4)]) (rest := []) ⟨hx, hb, hml, hown, hts⟩ xR_S hK hX0 hS hP (c_X10_byteAt hj l (f 0 4) f t y18 hq19) (cwV 1 hts gX10_advances_X10_byteAt rfl rfl rfl (by decide +kernel) ⟨Nat.le_trans (Nat.le_of_ble_eq_true rfl) hR.1, Nat.le_trans (Nat.le_of_ble_eq_true rfl) hR.2⟩) (va_recv hK hP (ci := 10) (q0 := 0) rfl rfl) rfl hl.1 rfl (Nat.le_of_ble_eq_true rfl) ⟨Nat.zero_le _, Nat.zero_le _⟩ dX10_advances_180 (fun H locs hP hS => ?_)
    refine lv_bipush (v := 48) hx hb dX10_advances_183 (by decide) ?_
    refine lv_bipush (v := 57) hx hb dX10_advances_185 (by decide) ?_
    obtain ⟨y20, hq21, hf⟩ := bi_out hf
    refine cw_si (As := [.int y18, .int 48, .int 57]) (rest := []) ⟨hx, hb, hml, hown, hts⟩ xR_S hK hX0 hS hP (c_X10_in hj l y18 48 57 f t y20 hq21) (va_cwS 3 hts gX10_advances_X10_in rfl rfl rfl (by decide +kernel) ⟨Nat.le_trans (Nat.le_of_ble_eq_true rfl) hR.1, Nat.le_trans (Nat.le_of_ble_eq_true rfl) hR.2⟩) rfl hl.1 rfl (Nat.le_of_ble_eq_true rfl) ⟨Nat.zero_le _, Nat.zero_le _⟩ dX10_advances_187 (fun H locs hP hS => ?_)
    refine lv_if_eq (tgt := 245) hx hb dX10_advances_190 (by decide) (fun c190 => ?_) (fun c190 => ?_)
    · have hf := itT hf c190
      obtain rfl := Option.some.inj hf
      exact kx245 H locs ls hP hS (lv_sub hl [0, 1] rfl)
    · have hf := itF hf c190
      refine lv_aload_n hx hb dX10_advances_193 rfl (lv_at hl 0 rfl) ?_
      refine lv_aload_n hx hb dX10_advances_194 rfl (lv_at hl 0 rfl) ?_
      refine va_get (D := D) (ci := 10) (v := .int (f 0 7)) (C := RX10) (T := TX10) (N := 34) hx hb hts hiX10 hown hK hP 0 rfl rfl 7 (by decide) lk108 (fun _ h9 => h9) rfl dX10_advances_195 ?_
      refine lv_bipush (v := 99) hx hb dX10_advances_198 (by decide) ?_
      obtain ⟨k23, ek23, hf⟩ := sq_out hf
      have hk23 : ∀ (v22 : Int32), k23 v22 = some fR → ∀ (H : Heap) (locs : List Loc) (ls : Array Slot), va_P D vwCl (wR ad cy f t) H → va_S (aR ad) s.heap H locs → lv_has ls 4 [(0, .ref (ad 0)), (1, .int x1)] → W p l e R s m args below meth c H locs 0 0 Q (F0 m 229 ls [.int v22, .ref (ad 0)]) := by
        intro v22 hf H locs ls hP hS hl
        have hf := sk1 ek23 v22 hf
        obtain ⟨f24, ef24, hf⟩ := sq_out hf
        refine va_put (D := D) (ci := 10) (v := .int v22) (ty := .int) (C := RX10) (T := TX10) (N := 34) hx hb hts hiX10 tyX10 tyX10_ok nmX10 hown hK hP (dR hj f t) hS 0 rfl rfl 7 (by decide) lk108 (fun _ h9 => h9) rfl (by decide +kernel) rfl rfl (Nat.le_of_ble_eq_true rfl) dX10_advances_229 (fun H locs hP _ hS => ?_)
        have hP := sR_0_7 ef24 hP
        refine lv_aload_n hx hb dX10_advances_232 rfl (lv_at hl 0 rfl) ?_
        refine lv_dup hx hb dX10_advances_233 rfl ?_
        refine va_get (D := D) (ci := 10) (v := .int (f24 0 4)) (C := RX10) (T := TX10) (N := 34) hx hb hts hiX10 hown hK hP 0 rfl rfl 4 (by decide) lk91 (fun _ h9 => h9) rfl dX10_advances_234 ?_
        refine lv_iconst (v := 1) hx hb dX10_advances_237 (by decide) ?_
        refine lv_iadd hx hb dX10_advances_238 ?_
        obtain ⟨f25, ef25, hf⟩ := sq_out hf
        refine va_put (D := D) (ci := 10) (v := .int ((f24 0 4) + 1)) (ty := .int) (C := RX10) (T := TX10) (N := 34) hx hb hts hiX10 tyX10 tyX10_ok nmX10 hown hK hP (dR hj f24 t) hS 0 rfl rfl 4 (by decide) lk91 (fun _ h9 => h9) rfl (by decide +kernel) rfl rfl (Nat.le_of_ble_eq_true rfl) dX10_advances_239 (fun H locs hP _ hS => ?_)
        have hP := sR_0_4 ef25 hP
        refine lv_goto (tgt := 175) hx hb dX10_advances_242 (by decide) ?_
        exact ih f25 hf H locs ls hP hS (lv_sub hl [0, 1] rfl)
      refine lv_icmp_le (tgt := 210) hx hb dX10_advances_200 (by decide) (fun c200 => ?_) (fun c200 => ?_)
      · have hf := itT hf c200
        refine lv_bipush (v := 10) hx hb dX10_advances_210 (by decide) ?_
        refine lv_aload_n hx hb dX10_advances_212 rfl (lv_at hl 0 rfl) ?_
        refine va_get (D := D) (ci := 10) (v := .int (f 0 7)) (C := RX10) (T := TX10) (N := 34) hx hb hts hiX10 hown hK hP 0 rfl rfl 7 (by decide) lk108 (fun _ h9 => h9) rfl dX10_advances_213 ?_
        refine lv_imul hx hb dX10_advances_216 ?_
        refine lv_aload_n hx hb dX10_advances_217 rfl (lv_at hl 0 rfl) ?_
        refine lv_aload_n hx hb dX10_advances_218 rfl (lv_at hl 0 rfl) ?_
        refine va_get (D := D) (ci := 10) (v := .int (f 0 4)) (C := RX10) (T := TX10) (N := 34) hx hb hts hiX10 hown hK hP 0 rfl rfl 4 (by decide) lk91 (fun _ h9 => h9) rfl dX10_advances_219 ?_
        obtain ⟨y26, hq27, hf⟩ := bi_out hf
        refine cw_vi (As := [.int (f 0 4)]) (rest := [.int (10 * (f 0 7)), .ref (ad 0)]) ⟨hx, hb, hml, hown, hts⟩ xR_S hK hX0 hS hP (c_X10_byteAt hj l (f 0 4) f t y26 hq27) (cwV 1 hts gX10_advances_X10_byteAt rfl rfl rfl (by decide +kernel) ⟨Nat.le_trans (Nat.le_of_ble_eq_true rfl) hR.1, Nat.le_trans (Nat.le_of_ble_eq_true rfl) hR.2⟩) (va_recv hK hP (ci := 10) (q0 := 0) rfl rfl) rfl hl.1 rfl (Nat.le_of_ble_eq_true rfl) ⟨Nat.zero_le _, Nat.zero_le _⟩ dX10_advances_222 (fun H locs hP hS => ?_)
        refine lv_iadd hx hb dX10_advances_225 ?_
        refine lv_bipush (v := 48) hx hb dX10_advances_226 (by decide) ?_
        refine lv_isub hx hb dX10_advances_228 ?_
        exact hk23 _ hf H locs ls hP hS (lv_sub hl [0, 1] rfl)
      · have hf := itF hf c200
        refine lv_aload_n hx hb dX10_advances_203 rfl (lv_at hl 0 rfl) ?_
        refine va_get (D := D) (ci := 10) (v := .int (f 0 7)) (C := RX10) (T := TX10) (N := 34) hx hb hts hiX10 hown hK hP 0 rfl rfl 7 (by decide) lk108 (fun _ h9 => h9) rfl dX10_advances_204 ?_
        refine lv_goto (tgt := 229) hx hb dX10_advances_207 (by decide) ?_
        exact hk23 _ hf H locs ls hP hS (lv_sub hl [0, 1] rfl)
def lp_X10_advances_68 (N : Nat)  : Nat → Int64 → mM → Option (Int64 × mM)
  | 0, _, _ => none
  | n + 1, x2, f => bi (q_X10_byteAt (f 0 4) f) (fun y34 => bi (q_X10_in y34 97 122) (fun y36 => if y36 = 0 then some (x2, f) else sq (fun (v38 : Int64) => sq (st2 f 0 4 ((f 0 4) + 1)) (fun f40 => lp_X10_advances_68 N n v38 f40)) (fun k39 => if 7 ≤ ((f 0 4) - (f 0 6)) then k39 x2 else bi (q_X10_byteAt (f 0 4) f) (fun y41 => bi (q_X10_add x2 y41) (fun y43 => k39 y43)))))
theorem lp_X10_advances_68_s (N : Nat)  (n : Nat) (x2 : Int64) (f : mM) : lp_X10_advances_68 N (n + 1) x2 f = (bi (q_X10_byteAt (f 0 4) f) (fun y34 => bi (q_X10_in y34 97 122) (fun y36 => if y36 = 0 then some (x2, f) else sq (fun (v38 : Int64) => sq (st2 f 0 4 ((f 0 4) + 1)) (fun f40 => lp_X10_advances_68 N n v38 f40)) (fun k39 => if 7 ≤ ((f 0 4) - (f 0 6)) then k39 x2 else bi (q_X10_byteAt (f 0 4) f) (fun y41 => bi (q_X10_add x2 y41) (fun y43 => k39 y43)))))) := rfl
set_option maxHeartbeats 4000000 in
set_option maxRecDepth 100000 in
theorem lp_X10_advances_68_w (C0 : cX p s m args meth c cX10_advances 4 none RX10 wsX10_advances D cy (xR)) (hj : jR ad) (hR : 3 ≤ R.frames ∧ 69 ≤ R.locals) (N : Nat)  (t : Int64) (r2 : Int64) (fR : mM) (kx130 : ∀ (H : Heap) (locs : List Loc) (ls : Array Slot), va_P D vwCl (wR ad cy fR t) H → va_S (aR ad) s.heap H locs → lv_has ls 4 [(0, .ref (ad 0)), (2, .long r2)] → W p l e R s m args below meth c H locs 0 0 Q (F0 m 130 ls [])) : ∀ (n : Nat) (x2 : Int64) (f : mM), lp_X10_advances_68 N n x2 f = some (r2, fR) → ∀ (H : Heap) (locs : List Loc) (ls : Array Slot), va_P D vwCl (wR ad cy f t) H → va_S (aR ad) s.heap H locs → lv_has ls 4 [(0, .ref (ad 0)), (2, .long x2)] → W p l e R s m args below meth c H locs 0 0 Q (F0 m 68 ls []) := by
  obtain ⟨hx, hb, hr, hml, hown, hts, hlocks, hK, hX0⟩ := id C0
  have lk91 := hts (.fieldLink RX10 91 "PlankNineModel" "next" "I") (List.mem_of_getElem? (i := 1) rfl)
  have hiX10 : ∀ w ∈ u_ws RX10 TX10 34, w ∈ wsX10_advances := fun w h => List.mem_cons_of_mem _ (List.mem_append_right _ h)
  have lk98 := hts (.fieldLink RX10 98 "PlankNineModel" "place" "I") (List.mem_of_getElem? (i := 2) rfl)
  intro n
  induction n with
  | zero =>
    intro x2 f hf
    exact no_none hf
  | succ n ih =>
    intro x2 f hf H locs ls hP hS hl
    have hf := (lp_X10_advances_68_s N n x2 f).symm.trans hf
    refine lv_aload_n hx hb dX10_advances_68 rfl (lv_at hl 0 rfl) ?_
    refine lv_aload_n hx hb dX10_advances_69 rfl (lv_at hl 0 rfl) ?_
    refine va_get (D := D) (ci := 10) (v := .int (f 0 4)) (C := RX10) (T := TX10) (N := 34) hx hb hts hiX10 hown hK hP 0 rfl rfl 4 (by decide) lk91 (fun _ h9 => h9) rfl dX10_advances_70 ?_
    obtain ⟨y34, hq35, hf⟩ := bi_out hf
    refine cw_vi (As := [.int (f 0 4)]) (rest := []) ⟨hx, hb, hml, hown, hts⟩ xR_S hK hX0 hS hP (c_X10_byteAt hj l (f 0 4) f t y34 hq35) (cwV 1 hts gX10_advances_X10_byteAt rfl rfl rfl (by decide +kernel) ⟨Nat.le_trans (Nat.le_of_ble_eq_true rfl) hR.1, Nat.le_trans (Nat.le_of_ble_eq_true rfl) hR.2⟩) (va_recv hK hP (ci := 10) (q0 := 0) rfl rfl) rfl hl.1 rfl (Nat.le_of_ble_eq_true rfl) ⟨Nat.zero_le _, Nat.zero_le _⟩ dX10_advances_73 (fun H locs hP hS => ?_)
    refine lv_bipush (v := 97) hx hb dX10_advances_76 (by decide) ?_
    refine lv_bipush (v := 122) hx hb dX10_advances_78 (by decide) ?_
    obtain ⟨y36, hq37, hf⟩ := bi_out hf
    refine cw_si (As := [.int y34, .int 97, .int 122]) (rest := []) ⟨hx, hb, hml, hown, hts⟩ xR_S hK hX0 hS hP (c_X10_in hj l y34 97 122 f t y36 hq37) (va_cwS 3 hts gX10_advances_X10_in rfl rfl rfl (by decide +kernel) ⟨Nat.le_trans (Nat.le_of_ble_eq_true rfl) hR.1, Nat.le_trans (Nat.le_of_ble_eq_true rfl) hR.2⟩) rfl hl.1 rfl (Nat.le_of_ble_eq_true rfl) ⟨Nat.zero_le _, Nat.zero_le _⟩ dX10_advances_80 (fun H locs hP hS => ?_)
    refine lv_if_eq (tgt := 130) hx hb dX10_advances_83 (by decide) (fun c83 => ?_) (fun c83 => ?_)
    · have hf := itT hf c83
      have hg_0 := Option.some.inj hf
      obtain ⟨rfl, rfl⟩ := Prod.mk.inj hg_0
      exact kx130 H locs ls hP hS (lv_sub hl [0, 1] rfl)
    · have hf := itF hf c83
      refine lv_aload_n hx hb dX10_advances_86 rfl (lv_at hl 0 rfl) ?_
      refine va_get (D := D) (ci := 10) (v := .int (f 0 4)) (C := RX10) (T := TX10) (N := 34) hx hb hts hiX10 hown hK hP 0 rfl rfl 4 (by decide) lk91 (fun _ h9 => h9) rfl dX10_advances_87 ?_
      refine lv_aload_n hx hb dX10_advances_90 rfl (lv_at hl 0 rfl) ?_
      refine va_get (D := D) (ci := 10) (v := .int (f 0 6)) (C := RX10) (T := TX10) (N := 34) hx hb hts hiX10 hown hK hP 0 rfl rfl 6 (by decide) lk98 (fun _ h9 => h9) rfl dX10_advances_91 ?_
      refine lv_isub hx hb dX10_advances_94 ?_
      refine lv_bipush (v := 7) hx hb dX10_advances_95 (by decide) ?_
      obtain ⟨k39, ek39, hf⟩ := sq_out hf
      have hk39 : ∀ (v38 : Int64), k39 v38 = some (r2, fR) → ∀ (H : Heap) (locs : List Loc) (ls : Array Slot), va_P D vwCl (wR ad cy f t) H → va_S (aR ad) s.heap H locs → lv_has ls 4 [(0, .ref (ad 0))] → W p l e R s m args below meth c H locs 0 0 Q (F0 m 116 ls [.long v38]) := by
        intro v38 hf H locs ls hP hS hl
        have hf := sk1 ek39 v38 hf
        refine lv_lstore_n (lv' := [(2, .long v38), (0, .ref (ad 0))]) hx hb dX10_advances_116 rfl hl (by decide) rfl (fun ls hl => ?_)
        refine lv_aload_n hx hb dX10_advances_117 rfl (lv_at hl 1 rfl) ?_
        refine lv_dup hx hb dX10_advances_118 rfl ?_
        refine va_get (D := D) (ci := 10) (v := .int (f 0 4)) (C := RX10) (T := TX10) (N := 34) hx hb hts hiX10 hown hK hP 0 rfl rfl 4 (by decide) lk91 (fun _ h9 => h9) rfl dX10_advances_119 ?_
        refine lv_iconst (v := 1) hx hb dX10_advances_122 (by decide) ?_
        refine lv_iadd hx hb dX10_advances_123 ?_
        obtain ⟨f40, ef40, hf⟩ := sq_out hf
        refine va_put (D := D) (ci := 10) (v := .int ((f 0 4) + 1)) (ty := .int) (C := RX10) (T := TX10) (N := 34) hx hb hts hiX10 tyX10 tyX10_ok nmX10 hown hK hP (dR hj f t) hS 0 rfl rfl 4 (by decide) lk91 (fun _ h9 => h9) rfl (by decide +kernel) rfl rfl (Nat.le_of_ble_eq_true rfl) dX10_advances_124 (fun H locs hP _ hS => ?_)
        have hP := sR_0_4 ef40 hP
        refine lv_goto (tgt := 68) hx hb dX10_advances_127 (by decide) ?_
        exact ih v38 f40 hf H locs ls hP hS (lv_sub hl [1, 0] rfl)
      refine lv_icmp_ge (tgt := 115) hx hb dX10_advances_97 (by decide) (fun c97 => ?_) (fun c97 => ?_)
      · have hf := itT hf c97
        refine lv_lload_n hx hb dX10_advances_115 rfl (lv_at hl 1 rfl) ?_
        exact hk39 x2 hf H locs ls hP hS (lv_sub hl [0] rfl)
      · have hf := itF hf c97
        refine lv_lload_n hx hb dX10_advances_100 rfl (lv_at hl 1 rfl) ?_
        refine lv_aload_n hx hb dX10_advances_101 rfl (lv_at hl 0 rfl) ?_
        refine lv_aload_n hx hb dX10_advances_102 rfl (lv_at hl 0 rfl) ?_
        refine va_get (D := D) (ci := 10) (v := .int (f 0 4)) (C := RX10) (T := TX10) (N := 34) hx hb hts hiX10 hown hK hP 0 rfl rfl 4 (by decide) lk91 (fun _ h9 => h9) rfl dX10_advances_103 ?_
        obtain ⟨y41, hq42, hf⟩ := bi_out hf
        refine cw_vi (As := [.int (f 0 4)]) (rest := [.long x2]) ⟨hx, hb, hml, hown, hts⟩ xR_S hK hX0 hS hP (c_X10_byteAt hj l (f 0 4) f t y41 hq42) (cwV 1 hts gX10_advances_X10_byteAt rfl rfl rfl (by decide +kernel) ⟨Nat.le_trans (Nat.le_of_ble_eq_true rfl) hR.1, Nat.le_trans (Nat.le_of_ble_eq_true rfl) hR.2⟩) (va_recv hK hP (ci := 10) (q0 := 0) rfl rfl) rfl hl.1 rfl (Nat.le_of_ble_eq_true rfl) ⟨Nat.zero_le _, Nat.zero_le _⟩ dX10_advances_106 (fun H locs hP hS => ?_)
        obtain ⟨y43, hq44, hf⟩ := bi_out hf
        refine cw_sl (As := [.long x2, .int y41]) (rest := []) ⟨hx, hb, hml, hown, hts⟩ xR_S hK hX0 hS hP (c_X10_add hj l x2 y41 f t y43 hq44) (va_cwS 2 hts gX10_advances_X10_add rfl rfl rfl (by decide +kernel) ⟨Nat.le_trans (Nat.le_of_ble_eq_true rfl) hR.1, Nat.le_trans (Nat.le_of_ble_eq_true rfl) hR.2⟩) rfl hl.1 rfl (Nat.le_of_ble_eq_true rfl) ⟨Nat.zero_le _, Nat.zero_le _⟩ dX10_advances_109 (fun H locs hP hS => ?_)
        refine lv_goto (tgt := 116) hx hb dX10_advances_112 (by decide) ?_
        exact hk39 y43 hf H locs ls hP hS (lv_sub hl [0] rfl)
def q_X10_advances (N : Nat) (f : mM) : Option (mM) := bi (lp_X10_advances_0 N N f) (fun f4 => sq (st2 f4 0 6 (f4 0 4)) (fun f6 => bi (q_X10_byteAt (f6 0 4) f6) (fun y7 => if 0 ≤ y7 then bi (q_X10_in y7 97 122) (fun y9 => if y9 = 0 then bi (q_X10_in y7 48 57) (fun y11 => if y11 = 0 then sq (st2 f6 0 4 ((f6 0 4) + 1)) (fun f13 => sq (fun (v14 : Int32) => sq (st2 f13 0 5 v14) (fun f16 => some f16)) (fun k15 => if y7 = 59 then k15 3 else k15 4)) else sq (st2 f6 0 7 0) (fun f17 => bi (lp_X10_advances_175 N y7 N f17) (fun f28 => sq (fun (v30 : Int32) => sq (st2 f28 0 5 v30) (fun f32 => some f32)) (fun k31 => if 99 < (f28 0 7) then k31 4 else sq (fun (_ : Unit) => k31 2) (fun k33 => if y7 = 48 then if ((f28 0 4) - (f28 0 6)) ≤ 1 then k33 () else k31 4 else k33 ()))))) else bi2 (lp_X10_advances_68 N N 0 f6) (fun y45 f46 => bi (q_X10_wordOf y45) (fun y48 => sq (st2 f46 0 7 y48) (fun f50 => sq (fun (v51 : Int32) => sq (st2 f50 0 5 v51) (fun f53 => some f53)) (fun k52 => if (f50 0 7) = (-9) then k52 4 else k52 1))))) else sq (st2 f6 0 5 0) (fun f54 => some f54))))
set_option maxHeartbeats 4000000 in
set_option maxRecDepth 100000 in
theorem b_X10_advances (C0 : cX p s m args meth c cX10_advances 4 none RX10 wsX10_advances D cy (xR)) (hj : jR ad) (hR : 3 ≤ R.frames ∧ 69 ≤ R.locals) (N : Nat)  (f : mM) (t : Int64) (fR : mM) (hf : q_X10_advances N f = some fR) (kr : ∀ (H : Heap) (locs : List Loc) (ls : Array Slot) (pc : Nat), decode cX10_advances pc = .ok (.return_, 1) → va_P D vwCl (wR ad cy fR t) H → va_S (aR ad) s.heap H locs → W p l e R s m args below meth c H locs 0 0 Q (F0 m pc ls [])) (H : Heap) (locs : List Loc) (ls : Array Slot) (hP : va_P D vwCl (wR ad cy f t) H) (hS : va_S (aR ad) s.heap H locs) (hl : lv_has ls 4 [(0, .ref (ad 0))]) : W p l e R s m args below meth c H locs 0 0 Q (F0 m 0 ls []) := by
  obtain ⟨hx, hb, hr, hml, hown, hts, hlocks, hK, hX0⟩ := id C0
  have lk91 := hts (.fieldLink RX10 91 "PlankNineModel" "next" "I") (List.mem_of_getElem? (i := 1) rfl)
  have hiX10 : ∀ w ∈ u_ws RX10 TX10 34, w ∈ wsX10_advances := fun w h => List.mem_cons_of_mem _ (List.mem_append_right _ h)
  have lk98 := hts (.fieldLink RX10 98 "PlankNineModel" "place" "I") (List.mem_of_getElem? (i := 2) rfl)
  have lk101 := hts (.fieldLink RX10 101 "PlankNineModel" "token" "I") (List.mem_of_getElem? (i := 3) rfl)
  have lk108 := hts (.fieldLink RX10 108 "PlankNineModel" "value" "I") (List.mem_of_getElem? (i := 4) rfl)
  unfold q_X10_advances at hf
  obtain ⟨f4, hlp5, hf⟩ := bi_out hf
  refine lp_X10_advances_0_w C0 hj hR N t f4 ?_ N f hlp5 H locs ls hP hS (lv_sub hl [0] rfl)
  intro H locs ls hP hS hl
  refine lv_aload_n hx hb dX10_advances_26 rfl (lv_at hl 0 rfl) ?_
  refine lv_aload_n hx hb dX10_advances_27 rfl (lv_at hl 0 rfl) ?_
  refine va_get (D := D) (ci := 10) (v := .int (f4 0 4)) (C := RX10) (T := TX10) (N := 34) hx hb hts hiX10 hown hK hP 0 rfl rfl 4 (by decide) lk91 (fun _ h9 => h9) rfl dX10_advances_28 ?_
  obtain ⟨f6, ef6, hf⟩ := sq_out hf
  refine va_put (D := D) (ci := 10) (v := .int (f4 0 4)) (ty := .int) (C := RX10) (T := TX10) (N := 34) hx hb hts hiX10 tyX10 tyX10_ok nmX10 hown hK hP (dR hj f4 t) hS 0 rfl rfl 6 (by decide) lk98 (fun _ h9 => h9) rfl (by decide +kernel) rfl rfl (Nat.le_of_ble_eq_true rfl) dX10_advances_31 (fun H locs hP _ hS => ?_)
  have hP := sR_0_6 ef6 hP
  refine lv_aload_n hx hb dX10_advances_34 rfl (lv_at hl 0 rfl) ?_
  refine lv_aload_n hx hb dX10_advances_35 rfl (lv_at hl 0 rfl) ?_
  refine va_get (D := D) (ci := 10) (v := .int (f6 0 4)) (C := RX10) (T := TX10) (N := 34) hx hb hts hiX10 hown hK hP 0 rfl rfl 4 (by decide) lk91 (fun _ h9 => h9) rfl dX10_advances_36 ?_
  obtain ⟨y7, hq8, hf⟩ := bi_out hf
  refine cw_vi (As := [.int (f6 0 4)]) (rest := []) ⟨hx, hb, hml, hown, hts⟩ xR_S hK hX0 hS hP (c_X10_byteAt hj l (f6 0 4) f6 t y7 hq8) (cwV 1 hts gX10_advances_X10_byteAt rfl rfl rfl (by decide +kernel) ⟨Nat.le_trans (Nat.le_of_ble_eq_true rfl) hR.1, Nat.le_trans (Nat.le_of_ble_eq_true rfl) hR.2⟩) (va_recv hK hP (ci := 10) (q0 := 0) rfl rfl) rfl hl.1 rfl (Nat.le_of_ble_eq_true rfl) ⟨Nat.zero_le _, Nat.zero_le _⟩ dX10_advances_39 (fun H locs hP hS => ?_)
  refine lv_istore_n (lv' := [(1, .int y7), (0, .ref (ad 0))]) hx hb dX10_advances_42 rfl hl (by decide) rfl (fun ls hl => ?_)
  refine lv_iload_n hx hb dX10_advances_43 rfl (lv_at hl 0 rfl) ?_
  refine lv_if_ge (tgt := 55) hx hb dX10_advances_44 (by decide) (fun c44 => ?_) (fun c44 => ?_)
  · have hf := itT hf c44
    refine lv_iload_n hx hb dX10_advances_55 rfl (lv_at hl 0 rfl) ?_
    refine lv_bipush (v := 97) hx hb dX10_advances_56 (by decide) ?_
    refine lv_bipush (v := 122) hx hb dX10_advances_58 (by decide) ?_
    obtain ⟨y9, hq10, hf⟩ := bi_out hf
    refine cw_si (As := [.int y7, .int 97, .int 122]) (rest := []) ⟨hx, hb, hml, hown, hts⟩ xR_S hK hX0 hS hP (c_X10_in hj l y7 97 122 f6 t y9 hq10) (va_cwS 3 hts gX10_advances_X10_in rfl rfl rfl (by decide +kernel) ⟨Nat.le_trans (Nat.le_of_ble_eq_true rfl) hR.1, Nat.le_trans (Nat.le_of_ble_eq_true rfl) hR.2⟩) rfl hl.1 rfl (Nat.le_of_ble_eq_true rfl) ⟨Nat.zero_le _, Nat.zero_le _⟩ dX10_advances_60 (fun H locs hP hS => ?_)
    refine lv_if_eq (tgt := 159) hx hb dX10_advances_63 (by decide) (fun c63 => ?_) (fun c63 => ?_)
    · have hf := itT hf c63
      refine lv_iload_n hx hb dX10_advances_159 rfl (lv_at hl 0 rfl) ?_
      refine lv_bipush (v := 48) hx hb dX10_advances_160 (by decide) ?_
      refine lv_bipush (v := 57) hx hb dX10_advances_162 (by decide) ?_
      obtain ⟨y11, hq12, hf⟩ := bi_out hf
      refine cw_si (As := [.int y7, .int 48, .int 57]) (rest := []) ⟨hx, hb, hml, hown, hts⟩ xR_S hK hX0 hS hP (c_X10_in hj l y7 48 57 f6 t y11 hq12) (va_cwS 3 hts gX10_advances_X10_in rfl rfl rfl (by decide +kernel) ⟨Nat.le_trans (Nat.le_of_ble_eq_true rfl) hR.1, Nat.le_trans (Nat.le_of_ble_eq_true rfl) hR.2⟩) rfl hl.1 rfl (Nat.le_of_ble_eq_true rfl) ⟨Nat.zero_le _, Nat.zero_le _⟩ dX10_advances_164 (fun H locs hP hS => ?_)
      refine lv_if_eq (tgt := 285) hx hb dX10_advances_167 (by decide) (fun c167 => ?_) (fun c167 => ?_)
      · have hf := itT hf c167
        refine lv_aload_n hx hb dX10_advances_285 rfl (lv_at hl 1 rfl) ?_
        refine lv_dup hx hb dX10_advances_286 rfl ?_
        refine va_get (D := D) (ci := 10) (v := .int (f6 0 4)) (C := RX10) (T := TX10) (N := 34) hx hb hts hiX10 hown hK hP 0 rfl rfl 4 (by decide) lk91 (fun _ h9 => h9) rfl dX10_advances_287 ?_
        refine lv_iconst (v := 1) hx hb dX10_advances_290 (by decide) ?_
        refine lv_iadd hx hb dX10_advances_291 ?_
        obtain ⟨f13, ef13, hf⟩ := sq_out hf
        refine va_put (D := D) (ci := 10) (v := .int ((f6 0 4) + 1)) (ty := .int) (C := RX10) (T := TX10) (N := 34) hx hb hts hiX10 tyX10 tyX10_ok nmX10 hown hK hP (dR hj f6 t) hS 0 rfl rfl 4 (by decide) lk91 (fun _ h9 => h9) rfl (by decide +kernel) rfl rfl (Nat.le_of_ble_eq_true rfl) dX10_advances_292 (fun H locs hP _ hS => ?_)
        have hP := sR_0_4 ef13 hP
        refine lv_aload_n hx hb dX10_advances_295 rfl (lv_at hl 1 rfl) ?_
        refine lv_iload_n hx hb dX10_advances_296 rfl (lv_at hl 0 rfl) ?_
        refine lv_bipush (v := 59) hx hb dX10_advances_297 (by decide) ?_
        obtain ⟨k15, ek15, hf⟩ := sq_out hf
        have hk15 : ∀ (v14 : Int32), k15 v14 = some fR → ∀ (H : Heap) (locs : List Loc) (ls : Array Slot), va_P D vwCl (wR ad cy f13 t) H → va_S (aR ad) s.heap H locs → lv_has ls 4 [] → W p l e R s m args below meth c H locs 0 0 Q (F0 m 307 ls [.int v14, .ref (ad 0)]) := by
          intro v14 hf H locs ls hP hS hl
          have hf := sk1 ek15 v14 hf
          obtain ⟨f16, ef16, hf⟩ := sq_out hf
          refine va_put (D := D) (ci := 10) (v := .int v14) (ty := .int) (C := RX10) (T := TX10) (N := 34) hx hb hts hiX10 tyX10 tyX10_ok nmX10 hown hK hP (dR hj f13 t) hS 0 rfl rfl 5 (by decide) lk101 (fun _ h9 => h9) rfl (by decide +kernel) rfl rfl (Nat.le_of_ble_eq_true rfl) dX10_advances_307 (fun H locs hP _ hS => ?_)
          have hP := sR_0_5 ef16 hP
          obtain rfl := Option.some.inj hf
          exact kr H locs ls 310 dX10_advances_310 hP hS
        refine lv_icmp_ne (tgt := 306) hx hb dX10_advances_299 (by decide) (fun c299 => ?_) (fun c299 => ?_)
        · have hf := itF hf c299
          refine lv_iconst (v := 4) hx hb dX10_advances_306 (by decide) ?_
          exact hk15 4 hf H locs ls hP hS (lv_sub hl [] rfl)
        · have hf := itT hf c299
          refine lv_iconst (v := 3) hx hb dX10_advances_302 (by decide) ?_
          refine lv_goto (tgt := 307) hx hb dX10_advances_303 (by decide) ?_
          exact hk15 3 hf H locs ls hP hS (lv_sub hl [] rfl)
      · have hf := itF hf c167
        refine lv_aload_n hx hb dX10_advances_170 rfl (lv_at hl 1 rfl) ?_
        refine lv_iconst (v := 0) hx hb dX10_advances_171 (by decide) ?_
        obtain ⟨f17, ef17, hf⟩ := sq_out hf
        refine va_put (D := D) (ci := 10) (v := .int 0) (ty := .int) (C := RX10) (T := TX10) (N := 34) hx hb hts hiX10 tyX10 tyX10_ok nmX10 hown hK hP (dR hj f6 t) hS 0 rfl rfl 7 (by decide) lk108 (fun _ h9 => h9) rfl (by decide +kernel) rfl rfl (Nat.le_of_ble_eq_true rfl) dX10_advances_172 (fun H locs hP _ hS => ?_)
        have hP := sR_0_7 ef17 hP
        obtain ⟨f28, hlp29, hf⟩ := bi_out hf
        refine lp_X10_advances_175_w C0 hj hR N y7 t f28 ?_ N f17 hlp29 H locs ls hP hS (lv_sub hl [1, 0] rfl)
        intro H locs ls hP hS hl
        refine lv_aload_n hx hb dX10_advances_245 rfl (lv_at hl 0 rfl) ?_
        refine lv_aload_n hx hb dX10_advances_246 rfl (lv_at hl 0 rfl) ?_
        refine va_get (D := D) (ci := 10) (v := .int (f28 0 7)) (C := RX10) (T := TX10) (N := 34) hx hb hts hiX10 hown hK hP 0 rfl rfl 7 (by decide) lk108 (fun _ h9 => h9) rfl dX10_advances_247 ?_
        refine lv_bipush (v := 99) hx hb dX10_advances_250 (by decide) ?_
        obtain ⟨k31, ek31, hf⟩ := sq_out hf
        have hk31 : ∀ (v30 : Int32), k31 v30 = some fR → ∀ (H : Heap) (locs : List Loc) (ls : Array Slot), va_P D vwCl (wR ad cy f28 t) H → va_S (aR ad) s.heap H locs → lv_has ls 4 [] → W p l e R s m args below meth c H locs 0 0 Q (F0 m 279 ls [.int v30, .ref (ad 0)]) := by
          intro v30 hf H locs ls hP hS hl
          have hf := sk1 ek31 v30 hf
          obtain ⟨f32, ef32, hf⟩ := sq_out hf
          refine va_put (D := D) (ci := 10) (v := .int v30) (ty := .int) (C := RX10) (T := TX10) (N := 34) hx hb hts hiX10 tyX10 tyX10_ok nmX10 hown hK hP (dR hj f28 t) hS 0 rfl rfl 5 (by decide) lk101 (fun _ h9 => h9) rfl (by decide +kernel) rfl rfl (Nat.le_of_ble_eq_true rfl) dX10_advances_279 (fun H locs hP _ hS => ?_)
          have hP := sR_0_5 ef32 hP
          refine lv_goto (tgt := 310) hx hb dX10_advances_282 (by decide) ?_
          obtain rfl := Option.some.inj hf
          exact kr H locs ls 310 dX10_advances_310 hP hS
        refine lv_icmp_gt (tgt := 274) hx hb dX10_advances_252 (by decide) (fun c252 => ?_) (fun c252 => ?_)
        · have hf := itT hf c252
          refine lv_iconst (v := 4) hx hb dX10_advances_274 (by decide) ?_
          refine lv_goto (tgt := 279) hx hb dX10_advances_275 (by decide) ?_
          exact hk31 4 hf H locs ls hP hS (lv_sub hl [] rfl)
        · have hf := itF hf c252
          refine lv_iload_n hx hb dX10_advances_255 rfl (lv_at hl 1 rfl) ?_
          refine lv_bipush (v := 48) hx hb dX10_advances_256 (by decide) ?_
          obtain ⟨k33, ek33, hf⟩ := sq_out hf
          have hk33 : k33 () = some fR → ∀ (H : Heap) (locs : List Loc) (ls : Array Slot), va_P D vwCl (wR ad cy f28 t) H → va_S (aR ad) s.heap H locs → lv_has ls 4 [] → W p l e R s m args below meth c H locs 0 0 Q (F0 m 278 ls [.ref (ad 0)]) := by
            intro hf H locs ls hP hS hl
            have hf := sk1 ek33 () hf
            refine lv_iconst (v := 2) hx hb dX10_advances_278 (by decide) ?_
            exact hk31 2 hf H locs ls hP hS (lv_sub hl [] rfl)
          refine lv_icmp_ne (tgt := 278) hx hb dX10_advances_258 (by decide) (fun c258 => ?_) (fun c258 => ?_)
          · have hf := itF hf c258
            exact hk33 hf H locs ls hP hS (lv_sub hl [] rfl)
          · have hf := itT hf c258
            refine lv_aload_n hx hb dX10_advances_261 rfl (lv_at hl 0 rfl) ?_
            refine va_get (D := D) (ci := 10) (v := .int (f28 0 4)) (C := RX10) (T := TX10) (N := 34) hx hb hts hiX10 hown hK hP 0 rfl rfl 4 (by decide) lk91 (fun _ h9 => h9) rfl dX10_advances_262 ?_
            refine lv_aload_n hx hb dX10_advances_265 rfl (lv_at hl 0 rfl) ?_
            refine va_get (D := D) (ci := 10) (v := .int (f28 0 6)) (C := RX10) (T := TX10) (N := 34) hx hb hts hiX10 hown hK hP 0 rfl rfl 6 (by decide) lk98 (fun _ h9 => h9) rfl dX10_advances_266 ?_
            refine lv_isub hx hb dX10_advances_269 ?_
            refine lv_iconst (v := 1) hx hb dX10_advances_270 (by decide) ?_
            refine lv_icmp_le (tgt := 278) hx hb dX10_advances_271 (by decide) (fun c271 => ?_) (fun c271 => ?_)
            · have hf := itT hf c271
              exact hk33 hf H locs ls hP hS (lv_sub hl [] rfl)
            · have hf := itF hf c271
              refine lv_iconst (v := 4) hx hb dX10_advances_274 (by decide) ?_
              refine lv_goto (tgt := 279) hx hb dX10_advances_275 (by decide) ?_
              exact hk31 4 hf H locs ls hP hS (lv_sub hl [] rfl)
    · have hf := itF hf c63
      refine lv_lconst (v := 0) hx hb dX10_advances_66 (by decide) ?_
      refine lv_lstore_n (lv' := [(2, .long 0), (1, .int y7), (0, .ref (ad 0))]) hx hb dX10_advances_67 rfl hl (by decide) rfl (fun ls hl => ?_)
      obtain ⟨y45, f46, hlp47, hf⟩ := bi2_out hf
      refine lp_X10_advances_68_w C0 hj hR N t y45 f46 ?_ N 0 f6 hlp47 H locs ls hP hS (lv_sub hl [2, 0] rfl)
      intro H locs ls hP hS hl
      refine lv_aload_n hx hb dX10_advances_130 rfl (lv_at hl 0 rfl) ?_
      refine lv_lload_n hx hb dX10_advances_131 rfl (lv_at hl 1 rfl) ?_
      obtain ⟨y48, hq49, hf⟩ := bi_out hf
      refine cw_si (As := [.long y45]) (rest := [.ref (ad 0)]) ⟨hx, hb, hml, hown, hts⟩ xR_S hK hX0 hS hP (c_X10_wordOf hj l y45 f46 t y48 hq49) (va_cwS 1 hts gX10_advances_X10_wordOf rfl rfl rfl (by decide +kernel) ⟨Nat.le_trans (Nat.le_of_ble_eq_true rfl) hR.1, Nat.le_trans (Nat.le_of_ble_eq_true rfl) hR.2⟩) rfl hl.1 rfl (Nat.le_of_ble_eq_true rfl) ⟨Nat.zero_le _, Nat.zero_le _⟩ dX10_advances_132 (fun H locs hP hS => ?_)
      obtain ⟨f50, ef50, hf⟩ := sq_out hf
      refine va_put (D := D) (ci := 10) (v := .int y48) (ty := .int) (C := RX10) (T := TX10) (N := 34) hx hb hts hiX10 tyX10 tyX10_ok nmX10 hown hK hP (dR hj f46 t) hS 0 rfl rfl 7 (by decide) lk108 (fun _ h9 => h9) rfl (by decide +kernel) rfl rfl (Nat.le_of_ble_eq_true rfl) dX10_advances_135 (fun H locs hP _ hS => ?_)
      have hP := sR_0_7 ef50 hP
      refine lv_aload_n hx hb dX10_advances_138 rfl (lv_at hl 0 rfl) ?_
      refine lv_aload_n hx hb dX10_advances_139 rfl (lv_at hl 0 rfl) ?_
      refine va_get (D := D) (ci := 10) (v := .int (f50 0 7)) (C := RX10) (T := TX10) (N := 34) hx hb hts hiX10 hown hK hP 0 rfl rfl 7 (by decide) lk108 (fun _ h9 => h9) rfl dX10_advances_140 ?_
      refine lv_bipush (v := (-9)) hx hb dX10_advances_143 (by decide) ?_
      obtain ⟨k52, ek52, hf⟩ := sq_out hf
      have hk52 : ∀ (v51 : Int32), k52 v51 = some fR → ∀ (H : Heap) (locs : List Loc) (ls : Array Slot), va_P D vwCl (wR ad cy f50 t) H → va_S (aR ad) s.heap H locs → lv_has ls 4 [] → W p l e R s m args below meth c H locs 0 0 Q (F0 m 153 ls [.int v51, .ref (ad 0)]) := by
        intro v51 hf H locs ls hP hS hl
        have hf := sk1 ek52 v51 hf
        obtain ⟨f53, ef53, hf⟩ := sq_out hf
        refine va_put (D := D) (ci := 10) (v := .int v51) (ty := .int) (C := RX10) (T := TX10) (N := 34) hx hb hts hiX10 tyX10 tyX10_ok nmX10 hown hK hP (dR hj f50 t) hS 0 rfl rfl 5 (by decide) lk101 (fun _ h9 => h9) rfl (by decide +kernel) rfl rfl (Nat.le_of_ble_eq_true rfl) dX10_advances_153 (fun H locs hP _ hS => ?_)
        have hP := sR_0_5 ef53 hP
        refine lv_goto (tgt := 310) hx hb dX10_advances_156 (by decide) ?_
        obtain rfl := Option.some.inj hf
        exact kr H locs ls 310 dX10_advances_310 hP hS
      refine lv_icmp_ne (tgt := 152) hx hb dX10_advances_145 (by decide) (fun c145 => ?_) (fun c145 => ?_)
      · have hf := itF hf c145
        refine lv_iconst (v := 1) hx hb dX10_advances_152 (by decide) ?_
        exact hk52 1 hf H locs ls hP hS (lv_sub hl [] rfl)
      · have hf := itT hf c145
        refine lv_iconst (v := 4) hx hb dX10_advances_148 (by decide) ?_
        refine lv_goto (tgt := 153) hx hb dX10_advances_149 (by decide) ?_
        exact hk52 4 hf H locs ls hP hS (lv_sub hl [] rfl)
  · have hf := itF hf c44
    refine lv_aload_n hx hb dX10_advances_47 rfl (lv_at hl 1 rfl) ?_
    refine lv_iconst (v := 0) hx hb dX10_advances_48 (by decide) ?_
    obtain ⟨f54, ef54, hf⟩ := sq_out hf
    refine va_put (D := D) (ci := 10) (v := .int 0) (ty := .int) (C := RX10) (T := TX10) (N := 34) hx hb hts hiX10 tyX10 tyX10_ok nmX10 hown hK hP (dR hj f6 t) hS 0 rfl rfl 5 (by decide) lk101 (fun _ h9 => h9) rfl (by decide +kernel) rfl rfl (Nat.le_of_ble_eq_true rfl) dX10_advances_49 (fun H locs hP _ hS => ?_)
    have hP := sR_0_5 ef54 hP
    refine lv_goto (tgt := 310) hx hb dX10_advances_52 (by decide) ?_
    obtain rfl := Option.some.inj hf
    exact kr H locs ls 310 dX10_advances_310 hP hS
set_option maxHeartbeats 4000000 in
set_option maxRecDepth 100000 in
theorem c_X10_advances (hj : jR ad) (l : Launch) (N : Nat)  (f : mM) (t : Int64) (fR : mM) (hf : q_X10_advances N f = some fR) : Met l yX10_advances wsX10_advances ({ frames := 3, cells := 0, slots := 0, locals := 69 }) (va_Pc ([.ref (ad 0)]) (pre D cy (wR ad cy) (xR) f t)) (va_Qv (fun (u : mM × Int64) => u = (fR, t)) (atW D (wR ad cy)) (aR ad)) 0 0 (aR ad) := by
  refine Met.ofW (cc := cX10_advances) (maxL := 4) (ret := none) (by decide) rfl ?_
  intro p e s m args below meth c s₁ B hml hv
  obtain ⟨rfl, hP, hK, hX0⟩ := hv
  have hl := lv_entry ([.ref (ad 0)]) (n := 4) (Nat.le_of_ble_eq_true rfl)
  rw [lg_entry_eq]
  generalize (lg_sl ([.ref (ad 0)]) ++ List.replicate (4 - (lg_sl ([.ref (ad 0)])).length) Slot.unset).toArray = ls at hl ⊢
  have hlocks := B.notSynchronized
  exact b_X10_advances ⟨B.exec, B.bytes, B.returns, hml, findClass_of_methodNamed B.named, atoms_spec (ws := wsX10_advances) B.pre, hlocks, hK, hX0⟩ hj ⟨Nat.le_refl _, Nat.le_refl _⟩ N  f t fR hf (fun H locs ls pc hd hP hS => W.vret B.exec B.bytes B.returns (fun t2 ht hW => ⟨⟨(fR, t), rfl, rfl, by show va_P D vwCl _ t2.heap; rw [ht]; exact hP⟩, hS.F ht⟩) hS.2.2 hd) s.heap [] ls hP va_S.rf hl
def q_X10_isWell (f : mM) : Option (Int32) := if 0 ≤ (f 0 8) then rz 0 (some 0) else rz 1 (some 1)
set_option maxHeartbeats 4000000 in
set_option maxRecDepth 100000 in
theorem b_X10_isWell (C0 : cX p s m args meth c cX10_isWell 1 (some .boolean) RX10 wsX10_isWell D cy (xR)) (hj : jR ad) (hR : 0 ≤ R.frames ∧ 0 ≤ R.locals)  (f : mM) (t : Int64) (r : Int32) (hf : q_X10_isWell f = some r) (kr : ∀ (H : Heap) (locs : List Loc) (ls : Array Slot) (pc : Nat), decode cX10_isWell pc = .ok (.ireturn, 1) → narrow .boolean (.int r) = .int r → va_P D vwCl (wR ad cy f t) H → va_S (aR ad) s.heap H locs → W p l e R s m args below meth c H locs 0 0 Q (F0 m pc ls [.int r])) (H : Heap) (locs : List Loc) (ls : Array Slot) (hP : va_P D vwCl (wR ad cy f t) H) (hS : va_S (aR ad) s.heap H locs) (hl : lv_has ls 1 [(0, .ref (ad 0))]) : W p l e R s m args below meth c H locs 0 0 Q (F0 m 0 ls []) := by
  obtain ⟨hx, hb, hr, hml, hown, hts, hlocks, hK, hX0⟩ := id C0
  have lk111 := hts (.fieldLink RX10 111 "PlankNineModel" "fault" "I") (List.mem_of_getElem? (i := 1) rfl)
  have hiX10 : ∀ w ∈ u_ws RX10 TX10 34, w ∈ wsX10_isWell := fun w h => List.mem_cons_of_mem _ (List.mem_append_right _ h)
  unfold q_X10_isWell at hf
  refine lv_aload_n hx hb dX10_isWell_0 rfl (lv_at hl 0 rfl) ?_
  refine va_get (D := D) (ci := 10) (v := .int (f 0 8)) (C := RX10) (T := TX10) (N := 34) hx hb hts hiX10 hown hK hP 0 rfl rfl 8 (by decide) lk111 (fun _ h9 => h9) rfl dX10_isWell_1 ?_
  refine lv_if_ge (tgt := 11) hx hb dX10_isWell_4 (by decide) (fun c4 => ?_) (fun c4 => ?_)
  · have hf := itT hf c4
    refine lv_iconst (v := 0) hx hb dX10_isWell_11 (by decide) ?_
    obtain ⟨hz, hf⟩ := rz_out hf
    obtain rfl := Option.some.inj hf
    exact kr H locs ls 12 dX10_isWell_12 hz hP hS
  · have hf := itF hf c4
    refine lv_iconst (v := 1) hx hb dX10_isWell_7 (by decide) ?_
    refine lv_goto (tgt := 12) hx hb dX10_isWell_8 (by decide) ?_
    obtain ⟨hz, hf⟩ := rz_out hf
    obtain rfl := Option.some.inj hf
    exact kr H locs ls 12 dX10_isWell_12 hz hP hS
set_option maxHeartbeats 4000000 in
set_option maxRecDepth 100000 in
theorem c_X10_isWell (hj : jR ad) (l : Launch)  (f : mM) (t : Int64) (r : Int32) (hf : q_X10_isWell f = some r) : Met l yX10_isWell wsX10_isWell ({ frames := 0, cells := 0, slots := 0, locals := 0 }) (va_Pc ([.ref (ad 0)]) (pre D cy (wR ad cy) (xR) f t)) (va_Qi (fun (r2 : Int32) (u : mM × Int64) => r2 = r ∧ u = (f, t)) (atW D (wR ad cy)) (aR ad)) 0 0 (aR ad) := by
  refine Met.ofW (cc := cX10_isWell) (maxL := 1) (ret := (some .boolean)) (by decide) rfl ?_
  intro p e s m args below meth c s₁ B hml hv
  obtain ⟨rfl, hP, hK, hX0⟩ := hv
  have hl := lv_entry ([.ref (ad 0)]) (n := 1) (Nat.le_of_ble_eq_true rfl)
  rw [lg_entry_eq]
  generalize (lg_sl ([.ref (ad 0)]) ++ List.replicate (1 - (lg_sl ([.ref (ad 0)])).length) Slot.unset).toArray = ls at hl ⊢
  have hlocks := B.notSynchronized
  exact b_X10_isWell ⟨B.exec, B.bytes, B.returns, hml, findClass_of_methodNamed B.named, atoms_spec (ws := wsX10_isWell) B.pre, hlocks, hK, hX0⟩ hj ⟨Nat.le_refl _, Nat.le_refl _⟩  f t r hf (fun H locs ls pc hd hz hP hS => W.zret B.exec B.bytes B.returns hz (fun t2 ht hW => ⟨⟨r, (f, t), rfl, ⟨rfl, rfl⟩, by show va_P D vwCl _ t2.heap; rw [ht]; exact hP⟩, hS.F ht⟩) hS.2.2 hd) s.heap [] ls hP va_S.rf hl
def q_X10_takes (N : Nat) (x1 : Int32) (f : mM) : Option (Int32 × mM) := bi (q_X10_isWell f) (fun y1 => if y1 = 0 then some (0, f) else if x1 = 0 then sq (st2 f 0 8 (f 0 6)) (fun f6 => some (0, f6)) else sq (f 0 7) (fun x2_3 => bi (q_X10_advances N f) (fun f4 => some (x2_3, f4))))
set_option maxHeartbeats 4000000 in
set_option maxRecDepth 100000 in
theorem b_X10_takes (C0 : cX p s m args meth c cX10_takes 3 (some .int) RX10 wsX10_takes D cy (xR)) (hj : jR ad) (hR : 4 ≤ R.frames ∧ 92 ≤ R.locals) (N : Nat) (x1 : Int32) (f : mM) (t : Int64) (r : Int32) (fR : mM) (hf : q_X10_takes N x1 f = some (r, fR)) (kr : ∀ (H : Heap) (locs : List Loc) (ls : Array Slot) (pc : Nat), decode cX10_takes pc = .ok (.ireturn, 1) → va_P D vwCl (wR ad cy fR t) H → va_S (aR ad) s.heap H locs → W p l e R s m args below meth c H locs 0 0 Q (F0 m pc ls [.int r])) (H : Heap) (locs : List Loc) (ls : Array Slot) (hP : va_P D vwCl (wR ad cy f t) H) (hS : va_S (aR ad) s.heap H locs) (hl : lv_has ls 3 [(0, .ref (ad 0)), (1, .int x1)]) : W p l e R s m args below meth c H locs 0 0 Q (F0 m 0 ls []) := by
  obtain ⟨hx, hb, hr, hml, hown, hts, hlocks, hK, hX0⟩ := id C0
  have lk108 := hts (.fieldLink RX10 108 "PlankNineModel" "value" "I") (List.mem_of_getElem? (i := 3) rfl)
  have hiX10 : ∀ w ∈ u_ws RX10 TX10 34, w ∈ wsX10_takes := fun w h => List.mem_cons_of_mem _ (List.mem_append_right _ h)
  have lk98 := hts (.fieldLink RX10 98 "PlankNineModel" "place" "I") (List.mem_of_getElem? (i := 1) rfl)
  have lk111 := hts (.fieldLink RX10 111 "PlankNineModel" "fault" "I") (List.mem_of_getElem? (i := 2) rfl)
  unfold q_X10_takes at hf
  refine lv_aload_n hx hb dX10_takes_0 rfl (lv_at hl 0 rfl) ?_
  obtain ⟨y1, hq2, hf⟩ := bi_out hf
  refine cw_vi (As := []) (rest := []) ⟨hx, hb, hml, hown, hts⟩ xR_S hK hX0 hS hP (c_X10_isWell hj l f t y1 hq2) (cwV 0 hts gX10_takes_X10_isWell rfl rfl rfl (by decide +kernel) ⟨Nat.le_trans (Nat.le_of_ble_eq_true rfl) hR.1, Nat.le_trans (Nat.le_of_ble_eq_true rfl) hR.2⟩) (va_recv hK hP (ci := 10) (q0 := 0) rfl rfl) rfl hl.1 rfl (Nat.le_of_ble_eq_true rfl) ⟨Nat.zero_le _, Nat.zero_le _⟩ dX10_takes_1 (fun H locs hP hS => ?_)
  refine lv_if_ne (tgt := 9) hx hb dX10_takes_4 (by decide) (fun c4 => ?_) (fun c4 => ?_)
  · have hf := itF hf c4
    refine lv_iload_n hx hb dX10_takes_9 rfl (lv_at hl 1 rfl) ?_
    refine lv_if_ne (tgt := 23) hx hb dX10_takes_10 (by decide) (fun c10 => ?_) (fun c10 => ?_)
    · have hf := itF hf c10
      refine lv_aload_n hx hb dX10_takes_23 rfl (lv_at hl 0 rfl) ?_
      refine va_get (D := D) (ci := 10) (v := .int (f 0 7)) (C := RX10) (T := TX10) (N := 34) hx hb hts hiX10 hown hK hP 0 rfl rfl 7 (by decide) lk108 (fun _ h9 => h9) rfl dX10_takes_24 ?_
      obtain ⟨x2_3, ex2_3, hf⟩ := sq_out hf
      refine lv_nmi ex2_3 ?_
      refine lv_istore_n (lv' := [(2, .int x2_3), (0, .ref (ad 0)), (1, .int x1)]) hx hb dX10_takes_27 rfl hl (by decide) rfl (fun ls hl => ?_)
      refine lv_aload_n hx hb dX10_takes_28 rfl (lv_at hl 1 rfl) ?_
      obtain ⟨f4, hq5, hf⟩ := bi_out hf
      refine cw_vv (As := []) (rest := []) ⟨hx, hb, hml, hown, hts⟩ xR_S hK hX0 hS hP (c_X10_advances hj l N f t f4 hq5) (cwV 0 hts gX10_takes_X10_advances rfl rfl rfl (by decide +kernel) ⟨Nat.le_trans (Nat.le_of_ble_eq_true rfl) hR.1, Nat.le_trans (Nat.le_of_ble_eq_true rfl) hR.2⟩) (va_recv hK hP (ci := 10) (q0 := 0) rfl rfl) rfl hl.1 rfl (Nat.le_of_ble_eq_true rfl) ⟨Nat.zero_le _, Nat.zero_le _⟩ dX10_takes_29 (fun H locs hP hS => ?_)
      refine lv_iload_n hx hb dX10_takes_32 rfl (lv_at hl 0 rfl) ?_
      obtain ⟨rfl, rfl⟩ := Prod.mk.inj (Option.some.inj hf)
      exact kr H locs ls 33 dX10_takes_33 hP hS
    · have hf := itT hf c10
      refine lv_aload_n hx hb dX10_takes_13 rfl (lv_at hl 0 rfl) ?_
      refine lv_aload_n hx hb dX10_takes_14 rfl (lv_at hl 0 rfl) ?_
      refine va_get (D := D) (ci := 10) (v := .int (f 0 6)) (C := RX10) (T := TX10) (N := 34) hx hb hts hiX10 hown hK hP 0 rfl rfl 6 (by decide) lk98 (fun _ h9 => h9) rfl dX10_takes_15 ?_
      obtain ⟨f6, ef6, hf⟩ := sq_out hf
      refine va_put (D := D) (ci := 10) (v := .int (f 0 6)) (ty := .int) (C := RX10) (T := TX10) (N := 34) hx hb hts hiX10 tyX10 tyX10_ok nmX10 hown hK hP (dR hj f t) hS 0 rfl rfl 8 (by decide) lk111 (fun _ h9 => h9) rfl (by decide +kernel) rfl rfl (Nat.le_of_ble_eq_true rfl) dX10_takes_18 (fun H locs hP _ hS => ?_)
      have hP := sR_0_8 ef6 hP
      refine lv_iconst (v := 0) hx hb dX10_takes_21 (by decide) ?_
      obtain ⟨rfl, rfl⟩ := Prod.mk.inj (Option.some.inj hf)
      exact kr H locs ls 22 dX10_takes_22 hP hS
  · have hf := itT hf c4
    refine lv_iconst (v := 0) hx hb dX10_takes_7 (by decide) ?_
    obtain ⟨rfl, rfl⟩ := Prod.mk.inj (Option.some.inj hf)
    exact kr H locs ls 8 dX10_takes_8 hP hS
set_option maxHeartbeats 4000000 in
set_option maxRecDepth 100000 in
theorem c_X10_takes (hj : jR ad) (l : Launch) (N : Nat) (x1 : Int32) (f : mM) (t : Int64) (r : Int32) (fR : mM) (hf : q_X10_takes N x1 f = some (r, fR)) : Met l yX10_takes wsX10_takes ({ frames := 4, cells := 0, slots := 0, locals := 92 }) (va_Pc ([.ref (ad 0), .int x1]) (pre D cy (wR ad cy) (xR) f t)) (va_Qi (fun (r2 : Int32) (u : mM × Int64) => r2 = r ∧ u = (fR, t)) (atW D (wR ad cy)) (aR ad)) 0 0 (aR ad) := by
  refine Met.ofW (cc := cX10_takes) (maxL := 3) (ret := (some .int)) (by decide) rfl ?_
  intro p e s m args below meth c s₁ B hml hv
  obtain ⟨rfl, hP, hK, hX0⟩ := hv
  have hl := lv_entry ([.ref (ad 0), .int x1]) (n := 3) (Nat.le_of_ble_eq_true rfl)
  rw [lg_entry_eq]
  generalize (lg_sl ([.ref (ad 0), .int x1]) ++ List.replicate (3 - (lg_sl ([.ref (ad 0), .int x1])).length) Slot.unset).toArray = ls at hl ⊢
  have hlocks := B.notSynchronized
  exact b_X10_takes ⟨B.exec, B.bytes, B.returns, hml, findClass_of_methodNamed B.named, atoms_spec (ws := wsX10_takes) B.pre, hlocks, hK, hX0⟩ hj ⟨Nat.le_refl _, Nat.le_refl _⟩ N x1 f t r fR hf (fun H locs ls pc hd hP hS => W.iret B.exec B.bytes B.returns (fun t2 ht hW => ⟨⟨r, (fR, t), rfl, ⟨rfl, rfl⟩, by show va_P D vwCl _ t2.heap; rw [ht]; exact hP⟩, hS.F ht⟩) hS.2.2 hd) s.heap [] ls hP va_S.rf hl
def q_X10_number (N : Nat) (x1 : Int32) (x2 : Int32) (f : mM) : Option (Int32 × mM) := sq (fun (v1 : Int32) => bi2 (q_X10_takes N v1 f) (fun y3 f4 => some (y3, f4))) (fun k2 => sq (fun (_ : Unit) => k2 0) (fun k6 => if (f 0 5) = 2 then bi (q_X10_in (f 0 7) x1 x2) (fun y7 => if y7 = 0 then k6 () else k2 1) else k6 ()))
set_option maxHeartbeats 4000000 in
set_option maxRecDepth 100000 in
theorem b_X10_number (C0 : cX p s m args meth c cX10_number 3 (some .int) RX10 wsX10_number D cy (xR)) (hj : jR ad) (hR : 5 ≤ R.frames ∧ 114 ≤ R.locals) (N : Nat) (x1 : Int32) (x2 : Int32) (f : mM) (t : Int64) (r : Int32) (fR : mM) (hf : q_X10_number N x1 x2 f = some (r, fR)) (kr : ∀ (H : Heap) (locs : List Loc) (ls : Array Slot) (pc : Nat), decode cX10_number pc = .ok (.ireturn, 1) → va_P D vwCl (wR ad cy fR t) H → va_S (aR ad) s.heap H locs → W p l e R s m args below meth c H locs 0 0 Q (F0 m pc ls [.int r])) (H : Heap) (locs : List Loc) (ls : Array Slot) (hP : va_P D vwCl (wR ad cy f t) H) (hS : va_S (aR ad) s.heap H locs) (hl : lv_has ls 3 [(0, .ref (ad 0)), (1, .int x1), (2, .int x2)]) : W p l e R s m args below meth c H locs 0 0 Q (F0 m 0 ls []) := by
  obtain ⟨hx, hb, hr, hml, hown, hts, hlocks, hK, hX0⟩ := id C0
  have lk101 := hts (.fieldLink RX10 101 "PlankNineModel" "token" "I") (List.mem_of_getElem? (i := 1) rfl)
  have hiX10 : ∀ w ∈ u_ws RX10 TX10 34, w ∈ wsX10_number := fun w h => List.mem_cons_of_mem _ (List.mem_append_right _ h)
  have lk108 := hts (.fieldLink RX10 108 "PlankNineModel" "value" "I") (List.mem_of_getElem? (i := 2) rfl)
  unfold q_X10_number at hf
  refine lv_aload_n hx hb dX10_number_0 rfl (lv_at hl 0 rfl) ?_
  refine lv_aload_n hx hb dX10_number_1 rfl (lv_at hl 0 rfl) ?_
  refine va_get (D := D) (ci := 10) (v := .int (f 0 5)) (C := RX10) (T := TX10) (N := 34) hx hb hts hiX10 hown hK hP 0 rfl rfl 5 (by decide) lk101 (fun _ h9 => h9) rfl dX10_number_2 ?_
  refine lv_iconst (v := 2) hx hb dX10_number_5 (by decide) ?_
  obtain ⟨k2, ek2, hf⟩ := sq_out hf
  have hk2 : ∀ (v1 : Int32), k2 v1 = some (r, fR) → ∀ (H : Heap) (locs : List Loc) (ls : Array Slot), va_P D vwCl (wR ad cy f t) H → va_S (aR ad) s.heap H locs → lv_has ls 3 [] → W p l e R s m args below meth c H locs 0 0 Q (F0 m 26 ls [.int v1, .ref (ad 0)]) := by
    intro v1 hf H locs ls hP hS hl
    have hf := sk1 ek2 v1 hf
    obtain ⟨y3, f4, hq5, hf⟩ := bi2_out hf
    refine cw_vi (As := [.int v1]) (rest := []) ⟨hx, hb, hml, hown, hts⟩ xR_S hK hX0 hS hP (c_X10_takes hj l N v1 f t y3 f4 hq5) (cwV 1 hts gX10_number_X10_takes rfl rfl rfl (by decide +kernel) ⟨Nat.le_trans (Nat.le_of_ble_eq_true rfl) hR.1, Nat.le_trans (Nat.le_of_ble_eq_true rfl) hR.2⟩) (va_recv hK hP (ci := 10) (q0 := 0) rfl rfl) rfl hl.1 rfl (Nat.le_of_ble_eq_true rfl) ⟨Nat.zero_le _, Nat.zero_le _⟩ dX10_number_26 (fun H locs hP hS => ?_)
    obtain ⟨rfl, rfl⟩ := Prod.mk.inj (Option.some.inj hf)
    exact kr H locs ls 29 dX10_number_29 hP hS
  obtain ⟨k6, ek6, hf⟩ := sq_out hf
  have hk6 : k6 () = some (r, fR) → ∀ (H : Heap) (locs : List Loc) (ls : Array Slot), va_P D vwCl (wR ad cy f t) H → va_S (aR ad) s.heap H locs → lv_has ls 3 [] → W p l e R s m args below meth c H locs 0 0 Q (F0 m 25 ls [.ref (ad 0)]) := by
    intro hf H locs ls hP hS hl
    have hf := sk1 ek6 () hf
    refine lv_iconst (v := 0) hx hb dX10_number_25 (by decide) ?_
    exact hk2 0 hf H locs ls hP hS (lv_sub hl [] rfl)
  refine lv_icmp_ne (tgt := 25) hx hb dX10_number_6 (by decide) (fun c6 => ?_) (fun c6 => ?_)
  · have hf := itF hf c6
    exact hk6 hf H locs ls hP hS (lv_sub hl [] rfl)
  · have hf := itT hf c6
    refine lv_aload_n hx hb dX10_number_9 rfl (lv_at hl 0 rfl) ?_
    refine va_get (D := D) (ci := 10) (v := .int (f 0 7)) (C := RX10) (T := TX10) (N := 34) hx hb hts hiX10 hown hK hP 0 rfl rfl 7 (by decide) lk108 (fun _ h9 => h9) rfl dX10_number_10 ?_
    refine lv_iload_n hx hb dX10_number_13 rfl (lv_at hl 1 rfl) ?_
    refine lv_iload_n hx hb dX10_number_14 rfl (lv_at hl 2 rfl) ?_
    obtain ⟨y7, hq8, hf⟩ := bi_out hf
    refine cw_si (As := [.int (f 0 7), .int x1, .int x2]) (rest := [.ref (ad 0)]) ⟨hx, hb, hml, hown, hts⟩ xR_S hK hX0 hS hP (c_X10_in hj l (f 0 7) x1 x2 f t y7 hq8) (va_cwS 3 hts gX10_number_X10_in rfl rfl rfl (by decide +kernel) ⟨Nat.le_trans (Nat.le_of_ble_eq_true rfl) hR.1, Nat.le_trans (Nat.le_of_ble_eq_true rfl) hR.2⟩) rfl hl.1 rfl (Nat.le_of_ble_eq_true rfl) ⟨Nat.zero_le _, Nat.zero_le _⟩ dX10_number_15 (fun H locs hP hS => ?_)
    refine lv_if_eq (tgt := 25) hx hb dX10_number_18 (by decide) (fun c18 => ?_) (fun c18 => ?_)
    · have hf := itT hf c18
      exact hk6 hf H locs ls hP hS (lv_sub hl [] rfl)
    · have hf := itF hf c18
      refine lv_iconst (v := 1) hx hb dX10_number_21 (by decide) ?_
      refine lv_goto (tgt := 26) hx hb dX10_number_22 (by decide) ?_
      exact hk2 1 hf H locs ls hP hS (lv_sub hl [] rfl)
set_option maxHeartbeats 4000000 in
set_option maxRecDepth 100000 in
theorem c_X10_number (hj : jR ad) (l : Launch) (N : Nat) (x1 : Int32) (x2 : Int32) (f : mM) (t : Int64) (r : Int32) (fR : mM) (hf : q_X10_number N x1 x2 f = some (r, fR)) : Met l yX10_number wsX10_number ({ frames := 5, cells := 0, slots := 0, locals := 114 }) (va_Pc ([.ref (ad 0), .int x1, .int x2]) (pre D cy (wR ad cy) (xR) f t)) (va_Qi (fun (r2 : Int32) (u : mM × Int64) => r2 = r ∧ u = (fR, t)) (atW D (wR ad cy)) (aR ad)) 0 0 (aR ad) := by
  refine Met.ofW (cc := cX10_number) (maxL := 3) (ret := (some .int)) (by decide) rfl ?_
  intro p e s m args below meth c s₁ B hml hv
  obtain ⟨rfl, hP, hK, hX0⟩ := hv
  have hl := lv_entry ([.ref (ad 0), .int x1, .int x2]) (n := 3) (Nat.le_of_ble_eq_true rfl)
  rw [lg_entry_eq]
  generalize (lg_sl ([.ref (ad 0), .int x1, .int x2]) ++ List.replicate (3 - (lg_sl ([.ref (ad 0), .int x1, .int x2])).length) Slot.unset).toArray = ls at hl ⊢
  have hlocks := B.notSynchronized
  exact b_X10_number ⟨B.exec, B.bytes, B.returns, hml, findClass_of_methodNamed B.named, atoms_spec (ws := wsX10_number) B.pre, hlocks, hK, hX0⟩ hj ⟨Nat.le_refl _, Nat.le_refl _⟩ N x1 x2 f t r fR hf (fun H locs ls pc hd hP hS => W.iret B.exec B.bytes B.returns (fun t2 ht hW => ⟨⟨r, (fR, t), rfl, ⟨rfl, rfl⟩, by show va_P D vwCl _ t2.heap; rw [ht]; exact hP⟩, hS.F ht⟩) hS.2.2 hd) s.heap [] ls hP va_S.rf hl
def q_X10_unlike (N : Nat) (x1 : Int32) (f : mM) : Option (Int32 × mM) := sq (fun (v1 : Int32) => bi2 (q_X10_takes N v1 f) (fun y3 f4 => some (y3, f4))) (fun k2 => sq (fun (_ : Unit) => k2 0) (fun k6 => if (f 0 5) = 2 then bi (q_X10_in (f 0 7) 0 ((f 0 19) - 1)) (fun y7 => if y7 = 0 then k6 () else if (f 0 7) = x1 then k6 () else k2 1) else k6 ()))
set_option maxHeartbeats 4000000 in
set_option maxRecDepth 100000 in
theorem b_X10_unlike (C0 : cX p s m args meth c cX10_unlike 2 (some .int) RX10 wsX10_unlike D cy (xR)) (hj : jR ad) (hR : 5 ≤ R.frames ∧ 114 ≤ R.locals) (N : Nat) (x1 : Int32) (f : mM) (t : Int64) (r : Int32) (fR : mM) (hf : q_X10_unlike N x1 f = some (r, fR)) (kr : ∀ (H : Heap) (locs : List Loc) (ls : Array Slot) (pc : Nat), decode cX10_unlike pc = .ok (.ireturn, 1) → va_P D vwCl (wR ad cy fR t) H → va_S (aR ad) s.heap H locs → W p l e R s m args below meth c H locs 0 0 Q (F0 m pc ls [.int r])) (H : Heap) (locs : List Loc) (ls : Array Slot) (hP : va_P D vwCl (wR ad cy f t) H) (hS : va_S (aR ad) s.heap H locs) (hl : lv_has ls 2 [(0, .ref (ad 0)), (1, .int x1)]) : W p l e R s m args below meth c H locs 0 0 Q (F0 m 0 ls []) := by
  obtain ⟨hx, hb, hr, hml, hown, hts, hlocks, hK, hX0⟩ := id C0
  have lk101 := hts (.fieldLink RX10 101 "PlankNineModel" "token" "I") (List.mem_of_getElem? (i := 1) rfl)
  have hiX10 : ∀ w ∈ u_ws RX10 TX10 34, w ∈ wsX10_unlike := fun w h => List.mem_cons_of_mem _ (List.mem_append_right _ h)
  have lk108 := hts (.fieldLink RX10 108 "PlankNineModel" "value" "I") (List.mem_of_getElem? (i := 2) rfl)
  have lk125 := hts (.fieldLink RX10 125 "PlankNineModel" "draftPlaces" "I") (List.mem_of_getElem? (i := 3) rfl)
  unfold q_X10_unlike at hf
  refine lv_aload_n hx hb dX10_unlike_0 rfl (lv_at hl 0 rfl) ?_
  refine lv_aload_n hx hb dX10_unlike_1 rfl (lv_at hl 0 rfl) ?_
  refine va_get (D := D) (ci := 10) (v := .int (f 0 5)) (C := RX10) (T := TX10) (N := 34) hx hb hts hiX10 hown hK hP 0 rfl rfl 5 (by decide) lk101 (fun _ h9 => h9) rfl dX10_unlike_2 ?_
  refine lv_iconst (v := 2) hx hb dX10_unlike_5 (by decide) ?_
  obtain ⟨k2, ek2, hf⟩ := sq_out hf
  have hk2 : ∀ (v1 : Int32), k2 v1 = some (r, fR) → ∀ (H : Heap) (locs : List Loc) (ls : Array Slot), va_P D vwCl (wR ad cy f t) H → va_S (aR ad) s.heap H locs → lv_has ls 2 [] → W p l e R s m args below meth c H locs 0 0 Q (F0 m 39 ls [.int v1, .ref (ad 0)]) := by
    intro v1 hf H locs ls hP hS hl
    have hf := sk1 ek2 v1 hf
    obtain ⟨y3, f4, hq5, hf⟩ := bi2_out hf
    refine cw_vi (As := [.int v1]) (rest := []) ⟨hx, hb, hml, hown, hts⟩ xR_S hK hX0 hS hP (c_X10_takes hj l N v1 f t y3 f4 hq5) (cwV 1 hts gX10_unlike_X10_takes rfl rfl rfl (by decide +kernel) ⟨Nat.le_trans (Nat.le_of_ble_eq_true rfl) hR.1, Nat.le_trans (Nat.le_of_ble_eq_true rfl) hR.2⟩) (va_recv hK hP (ci := 10) (q0 := 0) rfl rfl) rfl hl.1 rfl (Nat.le_of_ble_eq_true rfl) ⟨Nat.zero_le _, Nat.zero_le _⟩ dX10_unlike_39 (fun H locs hP hS => ?_)
    obtain ⟨rfl, rfl⟩ := Prod.mk.inj (Option.some.inj hf)
    exact kr H locs ls 42 dX10_unlike_42 hP hS
  obtain ⟨k6, ek6, hf⟩ := sq_out hf
  have hk6 : k6 () = some (r, fR) → ∀ (H : Heap) (locs : List Loc) (ls : Array Slot), va_P D vwCl (wR ad cy f t) H → va_S (aR ad) s.heap H locs → lv_has ls 2 [] → W p l e R s m args below meth c H locs 0 0 Q (F0 m 38 ls [.ref (ad 0)]) := by
    intro hf H locs ls hP hS hl
    have hf := sk1 ek6 () hf
    refine lv_iconst (v := 0) hx hb dX10_unlike_38 (by decide) ?_
    exact hk2 0 hf H locs ls hP hS (lv_sub hl [] rfl)
  refine lv_icmp_ne (tgt := 38) hx hb dX10_unlike_6 (by decide) (fun c6 => ?_) (fun c6 => ?_)
  · have hf := itF hf c6
    exact hk6 hf H locs ls hP hS (lv_sub hl [] rfl)
  · have hf := itT hf c6
    refine lv_aload_n hx hb dX10_unlike_9 rfl (lv_at hl 0 rfl) ?_
    refine va_get (D := D) (ci := 10) (v := .int (f 0 7)) (C := RX10) (T := TX10) (N := 34) hx hb hts hiX10 hown hK hP 0 rfl rfl 7 (by decide) lk108 (fun _ h9 => h9) rfl dX10_unlike_10 ?_
    refine lv_iconst (v := 0) hx hb dX10_unlike_13 (by decide) ?_
    refine lv_aload_n hx hb dX10_unlike_14 rfl (lv_at hl 0 rfl) ?_
    refine va_get (D := D) (ci := 10) (v := .int (f 0 19)) (C := RX10) (T := TX10) (N := 34) hx hb hts hiX10 hown hK hP 0 rfl rfl 19 (by decide) lk125 (fun _ h9 => h9) rfl dX10_unlike_15 ?_
    refine lv_iconst (v := 1) hx hb dX10_unlike_18 (by decide) ?_
    refine lv_isub hx hb dX10_unlike_19 ?_
    obtain ⟨y7, hq8, hf⟩ := bi_out hf
    refine cw_si (As := [.int (f 0 7), .int 0, .int ((f 0 19) - 1)]) (rest := [.ref (ad 0)]) ⟨hx, hb, hml, hown, hts⟩ xR_S hK hX0 hS hP (c_X10_in hj l (f 0 7) 0 ((f 0 19) - 1) f t y7 hq8) (va_cwS 3 hts gX10_unlike_X10_in rfl rfl rfl (by decide +kernel) ⟨Nat.le_trans (Nat.le_of_ble_eq_true rfl) hR.1, Nat.le_trans (Nat.le_of_ble_eq_true rfl) hR.2⟩) rfl hl.1 rfl (Nat.le_of_ble_eq_true rfl) ⟨Nat.zero_le _, Nat.zero_le _⟩ dX10_unlike_20 (fun H locs hP hS => ?_)
    refine lv_if_eq (tgt := 38) hx hb dX10_unlike_23 (by decide) (fun c23 => ?_) (fun c23 => ?_)
    · have hf := itT hf c23
      exact hk6 hf H locs ls hP hS (lv_sub hl [] rfl)
    · have hf := itF hf c23
      refine lv_aload_n hx hb dX10_unlike_26 rfl (lv_at hl 0 rfl) ?_
      refine va_get (D := D) (ci := 10) (v := .int (f 0 7)) (C := RX10) (T := TX10) (N := 34) hx hb hts hiX10 hown hK hP 0 rfl rfl 7 (by decide) lk108 (fun _ h9 => h9) rfl dX10_unlike_27 ?_
      refine lv_iload_n hx hb dX10_unlike_30 rfl (lv_at hl 1 rfl) ?_
      refine lv_icmp_eq (tgt := 38) hx hb dX10_unlike_31 (by decide) (fun c31 => ?_) (fun c31 => ?_)
      · have hf := itT hf c31
        exact hk6 hf H locs ls hP hS (lv_sub hl [] rfl)
      · have hf := itF hf c31
        refine lv_iconst (v := 1) hx hb dX10_unlike_34 (by decide) ?_
        refine lv_goto (tgt := 39) hx hb dX10_unlike_35 (by decide) ?_
        exact hk2 1 hf H locs ls hP hS (lv_sub hl [] rfl)
set_option maxHeartbeats 4000000 in
set_option maxRecDepth 100000 in
theorem c_X10_unlike (hj : jR ad) (l : Launch) (N : Nat) (x1 : Int32) (f : mM) (t : Int64) (r : Int32) (fR : mM) (hf : q_X10_unlike N x1 f = some (r, fR)) : Met l yX10_unlike wsX10_unlike ({ frames := 5, cells := 0, slots := 0, locals := 114 }) (va_Pc ([.ref (ad 0), .int x1]) (pre D cy (wR ad cy) (xR) f t)) (va_Qi (fun (r2 : Int32) (u : mM × Int64) => r2 = r ∧ u = (fR, t)) (atW D (wR ad cy)) (aR ad)) 0 0 (aR ad) := by
  refine Met.ofW (cc := cX10_unlike) (maxL := 2) (ret := (some .int)) (by decide) rfl ?_
  intro p e s m args below meth c s₁ B hml hv
  obtain ⟨rfl, hP, hK, hX0⟩ := hv
  have hl := lv_entry ([.ref (ad 0), .int x1]) (n := 2) (Nat.le_of_ble_eq_true rfl)
  rw [lg_entry_eq]
  generalize (lg_sl ([.ref (ad 0), .int x1]) ++ List.replicate (2 - (lg_sl ([.ref (ad 0), .int x1])).length) Slot.unset).toArray = ls at hl ⊢
  have hlocks := B.notSynchronized
  exact b_X10_unlike ⟨B.exec, B.bytes, B.returns, hml, findClass_of_methodNamed B.named, atoms_spec (ws := wsX10_unlike) B.pre, hlocks, hK, hX0⟩ hj ⟨Nat.le_refl _, Nat.le_refl _⟩ N x1 f t r fR hf (fun H locs ls pc hd hP hS => W.iret B.exec B.bytes B.returns (fun t2 ht hW => ⟨⟨r, (fR, t), rfl, ⟨rfl, rfl⟩, by show va_P D vwCl _ t2.heap; rw [ht]; exact hP⟩, hS.F ht⟩) hS.2.2 hd) s.heap [] ls hP va_S.rf hl
