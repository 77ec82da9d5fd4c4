variable {p : Program} {l : Launch} {e : Env} {R : Room} {s : State} {m : MethodId} {args : Array Value} {below : List Frame} {meth : Method} {c : Code} {Q : State → Prop} {D : va_G} {cy : Nat → ClassId} {ad sk sv : Nat → Nat}
def q_X0_timesBorne (x1 : Int32) (x2 : Int32) (f : mM) : Option (Int32) := if x2 ≤ 0 then some 0 else gi x1 9 (nz x2 (some ((f 24 (Int32.toNatClampNeg x1)) / x2)))
set_option maxHeartbeats 4000000 in
set_option maxRecDepth 100000 in
theorem b_X0_timesBorne (C0 : cX p s m args meth c cX0_timesBorne 3 (some .int) RX0 wsX0_timesBorne D cy (xP ad sk sv)) (hj : jP ad) (hR : 0 ≤ R.frames ∧ 0 ≤ R.locals) (x1 : Int32) (x2 : Int32) (f : mM) (t : Int64) (r : Int32) (hf : q_X0_timesBorne x1 x2 f = some r) (kr : ∀ (H : Heap) (locs : List Loc) (ls : Array Slot) (pc : Nat), decode cX0_timesBorne pc = .ok (.ireturn, 1) → va_P D vwCl (wP ad cy f t) H → va_S (aP ad) s.heap H locs → W p l e R s m args below meth c H locs 0 0 Q (F0 m pc ls [.int r])) (H : Heap) (locs : List Loc) (ls : Array Slot) (hP : va_P D vwCl (wP ad cy f t) H) (hS : va_S (aP ad) s.heap H locs) (hl : lv_has ls 3 [(0, .ref (ad 40)), (1, .int x1), (2, .int x2)]) : W p l e R s m args below meth c H locs 0 0 Q (F0 m 0 ls []) := by
  obtain ⟨hx, hb, hr, hml, hown, hts, hlocks, hK, hX0⟩ := id C0
  have lk28 := hts (.fieldLink RX0 28 "PlankNine$Cuts" "now" "LPlankNine$Now;") (List.mem_of_getElem? (i := 1) rfl)
  have hiX0 : ∀ w ∈ u_ws RX0 TX0 6, w ∈ wsX0_timesBorne := fun w h => List.mem_cons_of_mem _ (List.mem_append_left _ (List.mem_append_right _ h))
  have ln59 := nlF_41 (args := args) hX0
  have hiX3 : ∀ w ∈ u_ws RX3 TX3 4, w ∈ wsX0_timesBorne := fun w h => List.mem_cons_of_mem _ (List.mem_append_right _ h)
  unfold q_X0_timesBorne at hf
  refine lv_iload_n hx hb dX0_timesBorne_0 rfl (lv_at hl 2 rfl) ?_
  refine lv_if_le (tgt := 18) hx hb dX0_timesBorne_1 (by decide) (fun c1 => ?_) (fun c1 => ?_)
  · have hf := itT hf c1
    refine lv_iconst (v := 0) hx hb dX0_timesBorne_18 (by decide) ?_
    obtain rfl := Option.some.inj hf
    exact kr H locs ls 19 dX0_timesBorne_19 hP hS
  · have hf := itF hf c1
    refine lv_aload_n hx hb dX0_timesBorne_4 rfl (lv_at hl 0 rfl) ?_
    refine va_get (D := D) (ci := 0) (v := .ref (ad 23)) (C := RX0) (T := TX0) (N := 6) hx hb hts hiX0 hown hK hP 40 rfl rfl 1 (by decide) lk28 (fun _ h9 => h9) rfl dX0_timesBorne_5 ?_
    refine va_getN (D := D) (ci := 3) (v := .ref (ad 24)) (C := RX3) (T := TX3) (N := 4) hx hb hts hiX3 hown hK hP 23 rfl rfl 0 (by decide) ln59 (fun _ h9 => h9) rfl dX0_timesBorne_8 ?_
    refine lv_iload_n hx hb dX0_timesBorne_11 rfl (lv_at hl 1 rfl) ?_
    obtain ⟨hin1, hf⟩ := gi_out hf
    refine va_iald hx hb hK hP 24 1 rfl rfl hin1 dX0_timesBorne_12 ?_
    refine lv_iload_n hx hb dX0_timesBorne_13 rfl (lv_at hl 2 rfl) ?_
    obtain ⟨z2, hf⟩ := nz_out hf
    refine lv_idiv hx hb dX0_timesBorne_14 z2 ?_
    refine lv_goto (tgt := 19) hx hb dX0_timesBorne_15 (by decide) ?_
    obtain rfl := Option.some.inj hf
    exact kr H locs ls 19 dX0_timesBorne_19 hP hS
set_option maxHeartbeats 4000000 in
set_option maxRecDepth 100000 in
theorem c_X0_timesBorne (hj : jP ad) (l : Launch) (x1 : Int32) (x2 : Int32) (f : mM) (t : Int64) (r : Int32) (hf : q_X0_timesBorne x1 x2 f = some r) : Met l yX0_timesBorne wsX0_timesBorne ({ frames := 0, cells := 0, slots := 0, locals := 0 }) (va_Pc ([.ref (ad 40), .int x1, .int x2]) (pre D cy (wP ad cy) (xP ad sk sv) f t)) (va_Qi (fun (r2 : Int32) (u : mM × Int64) => r2 = r ∧ u = (f, t)) (atW D (wP ad cy)) (aP ad)) 0 0 (aP ad) := by
  refine Met.ofW (cc := cX0_timesBorne) (maxL := 3) (ret := (some .int)) (by decide) rfl ?_
  intro p e s m args below meth c s₁ B hml hv
  obtain ⟨rfl, hP, hK, hX0⟩ := hv
  have hl := lv_entry ([.ref (ad 40), .int x1, .int x2]) (n := 3) (Nat.le_of_ble_eq_true rfl)
  rw [lg_entry_eq]
  generalize (lg_sl ([.ref (ad 40), .int x1, .int x2]) ++ List.replicate (3 - (lg_sl ([.ref (ad 40), .int x1, .int x2])).length) Slot.unset).toArray = ls at hl ⊢
  have hlocks := B.notSynchronized
  exact b_X0_timesBorne ⟨B.exec, B.bytes, B.returns, hml, findClass_of_methodNamed B.named, atoms_spec (ws := wsX0_timesBorne) B.pre, hlocks, hK, hX0⟩ hj ⟨Nat.le_refl _, Nat.le_refl _⟩ x1 x2 f t r hf (fun H locs ls pc hd hP hS => W.iret B.exec B.bytes B.returns (fun t2 ht hW => ⟨⟨r, (f, t), rfl, ⟨rfl, rfl⟩, by show va_P D vwCl _ t2.heap; rw [ht]; exact hP⟩, hS.F ht⟩) hS.2.2 hd) s.heap [] ls hP va_S.rf hl
def lp_X0_lookAtSide_8 (N : Nat) (x1 : Int32) (x2 : Int32) (f : mM) : Nat → Int32 → Int32 → Int32 → Option (Int32 × Int32)
  | 0, _, _, _ => none
  | n + 1, x3, x4, x5 => if (f 3 1) ≤ x5 then some (x3, x4) else gi x5 9 (bi (q_X9_isIn x1 (f 4 (Int32.toNatClampNeg x5))) (fun y2 => gi x5 9 (bi (q_X9_isIn x1 (f 5 (Int32.toNatClampNeg x5))) (fun y5 => if y2 = y5 then sq (x5 + 1) (fun x5_7 => lp_X0_lookAtSide_8 N x1 x2 f n x3 x4 x5_7) else bi (q_X0_timesBorne x5 x2 f) (fun y8 => sq (x3 + y8) (fun x3_10 => sq (x4 ||| (1 <<< (x5 &&& 31))) (fun x4_11 => sq (x5 + 1) (fun x5_12 => lp_X0_lookAtSide_8 N x1 x2 f n x3_10 x4_11 x5_12))))))))
theorem lp_X0_lookAtSide_8_s (N : Nat) (x1 : Int32) (x2 : Int32) (f : mM) (n : Nat) (x3 : Int32) (x4 : Int32) (x5 : Int32) : lp_X0_lookAtSide_8 N x1 x2 f (n + 1) x3 x4 x5 = (if (f 3 1) ≤ x5 then some (x3, x4) else gi x5 9 (bi (q_X9_isIn x1 (f 4 (Int32.toNatClampNeg x5))) (fun y2 => gi x5 9 (bi (q_X9_isIn x1 (f 5 (Int32.toNatClampNeg x5))) (fun y5 => if y2 = y5 then sq (x5 + 1) (fun x5_7 => lp_X0_lookAtSide_8 N x1 x2 f n x3 x4 x5_7) else bi (q_X0_timesBorne x5 x2 f) (fun y8 => sq (x3 + y8) (fun x3_10 => sq (x4 ||| (1 <<< (x5 &&& 31))) (fun x4_11 => sq (x5 + 1) (fun x5_12 => lp_X0_lookAtSide_8 N x1 x2 f n x3_10 x4_11 x5_12))))))))) := rfl
set_option maxHeartbeats 4000000 in
set_option maxRecDepth 100000 in
theorem lp_X0_lookAtSide_8_w (C0 : cX p s m args meth c cX0_lookAtSide 6 none RX0 wsX0_lookAtSide D cy (xP ad sk sv)) (hj : jP ad) (hR : 1 ≤ R.frames ∧ 22 ≤ R.locals) (N : Nat) (x1 : Int32) (x2 : Int32) (f : mM) (t : Int64) (r3 : Int32) (r4 : Int32) (kx76 : ∀ (H : Heap) (locs : List Loc) (ls : Array Slot), va_P D vwCl (wP ad cy f t) H → va_S (aP ad) s.heap H locs → lv_has ls 6 [(0, .ref (ad 40)), (3, .int r3), (4, .int r4)] → W p l e R s m args below meth c H locs 0 0 Q (F0 m 76 ls [])) : ∀ (n : Nat) (x3 : Int32) (x4 : Int32) (x5 : Int32), lp_X0_lookAtSide_8 N x1 x2 f n x3 x4 x5 = some (r3, r4) → ∀ (H : Heap) (locs : List Loc) (ls : Array Slot), va_P D vwCl (wP ad cy f t) H → va_S (aP ad) s.heap H locs → lv_has ls 6 [(0, .ref (ad 40)), (1, .int x1), (2, .int x2), (3, .int x3), (4, .int x4), (5, .int x5)] → W p l e R s m args below meth c H locs 0 0 Q (F0 m 8 ls []) := by
  obtain ⟨hx, hb, hr, hml, hown, hts, hlocks, hK, hX0⟩ := id C0
  have lk24 := hts (.fieldLink RX0 24 "PlankNine$Cuts" "marsh" "LPlankNine$Marsh;") (List.mem_of_getElem? (i := 1) rfl)
  have hiX0 : ∀ w ∈ u_ws RX0 TX0 6, w ∈ wsX0_lookAtSide := fun w h => List.mem_cons_of_mem _ (List.mem_append_left _ (List.mem_append_left _ (List.mem_append_right _ h)))
  have ln45 := nlF_8 (args := args) hX0
  have hiX2 : ∀ w ∈ u_ws RX2 TX2 12, w ∈ wsX0_lookAtSide := fun w h => List.mem_cons_of_mem _ (List.mem_append_left _ (List.mem_append_right _ h))
  have ln48 := nlF_20 (args := args) hX0
  have ln52 := nlF_22 (args := args) hX0
  intro n
  induction n with
  | zero =>
    intro x3 x4 x5 hf
    exact no_none hf
  | succ n ih =>
    intro x3 x4 x5 hf H locs ls hP hS hl
    have hf := (lp_X0_lookAtSide_8_s N x1 x2 f n x3 x4 x5).symm.trans hf
    refine lv_iload hx hb dX0_lookAtSide_8 (lv_at hl 5 rfl) ?_
    refine lv_aload_n hx hb dX0_lookAtSide_10 rfl (lv_at hl 0 rfl) ?_
    refine va_get (D := D) (ci := 0) (v := .ref (ad 3)) (C := RX0) (T := TX0) (N := 6) hx hb hts hiX0 hown hK hP 40 rfl rfl 0 (by decide) lk24 (fun _ h9 => h9) rfl dX0_lookAtSide_11 ?_
    refine va_getN (D := D) (ci := 2) (v := .int (f 3 1)) (C := RX2) (T := TX2) (N := 12) hx hb hts hiX2 hown hK hP 3 rfl rfl 1 (by decide) ln45 (fun _ h9 => h9) rfl dX0_lookAtSide_14 ?_
    refine lv_icmp_ge (tgt := 76) hx hb dX0_lookAtSide_17 (by decide) (fun c17 => ?_) (fun c17 => ?_)
    · have hf := itT hf c17
      have hg_0 := Option.some.inj hf
      obtain ⟨rfl, rfl⟩ := Prod.mk.inj hg_0
      exact kx76 H locs ls hP hS (lv_sub hl [0, 3, 4] rfl)
    · have hf := itF hf c17
      refine lv_iload_n hx hb dX0_lookAtSide_20 rfl (lv_at hl 1 rfl) ?_
      refine lv_aload_n hx hb dX0_lookAtSide_21 rfl (lv_at hl 0 rfl) ?_
      refine va_get (D := D) (ci := 0) (v := .ref (ad 3)) (C := RX0) (T := TX0) (N := 6) hx hb hts hiX0 hown hK hP 40 rfl rfl 0 (by decide) lk24 (fun _ h9 => h9) rfl dX0_lookAtSide_22 ?_
      refine va_getN (D := D) (ci := 2) (v := .ref (ad 4)) (C := RX2) (T := TX2) (N := 12) hx hb hts hiX2 hown hK hP 3 rfl rfl 4 (by decide) ln48 (fun _ h9 => h9) rfl dX0_lookAtSide_25 ?_
      refine lv_iload hx hb dX0_lookAtSide_28 (lv_at hl 5 rfl) ?_
      obtain ⟨hin1, hf⟩ := gi_out hf
      refine va_iald hx hb hK hP 4 1 rfl rfl hin1 dX0_lookAtSide_30 ?_
      obtain ⟨y2, hq3, hf⟩ := bi_out hf
      refine cw_ni (As := [.int x1, .int (f 4 (Int32.toNatClampNeg x5))]) (rest := []) ⟨hx, hb, hml, hown, hts⟩ xP_S hK hX0 hS hP (c_X9_isIn hj l x1 (f 4 (Int32.toNatClampNeg x5)) f t y2 hq3) ⟨va_cnB 2 hts gX0_lookAtSide_X9_isIn_n37 rfl rfl rfl (nlM_6 hX0) (hts (.initialized RX9) (List.mem_of_getElem? (i := 5) rfl)) (by decide +kernel) ⟨Nat.le_trans (Nat.le_of_ble_eq_true rfl) hR.1, Nat.le_trans (Nat.le_of_ble_eq_true rfl) hR.2⟩, hts (.static yX9_isIn) (List.mem_of_getElem? (i := 4) rfl), trivial⟩ rfl hl.1 rfl (Nat.le_of_ble_eq_true rfl) ⟨Nat.zero_le _, Nat.zero_le _⟩ dX0_lookAtSide_31 (fun H locs hP hS => ?_)
      refine lv_iload_n hx hb dX0_lookAtSide_34 rfl (lv_at hl 1 rfl) ?_
      refine lv_aload_n hx hb dX0_lookAtSide_35 rfl (lv_at hl 0 rfl) ?_
      refine va_get (D := D) (ci := 0) (v := .ref (ad 3)) (C := RX0) (T := TX0) (N := 6) hx hb hts hiX0 hown hK hP 40 rfl rfl 0 (by decide) lk24 (fun _ h9 => h9) rfl dX0_lookAtSide_36 ?_
      refine va_getN (D := D) (ci := 2) (v := .ref (ad 5)) (C := RX2) (T := TX2) (N := 12) hx hb hts hiX2 hown hK hP 3 rfl rfl 5 (by decide) ln52 (fun _ h9 => h9) rfl dX0_lookAtSide_39 ?_
      refine lv_iload hx hb dX0_lookAtSide_42 (lv_at hl 5 rfl) ?_
      obtain ⟨hin4, hf⟩ := gi_out hf
      refine va_iald hx hb hK hP 5 1 rfl rfl hin4 dX0_lookAtSide_44 ?_
      obtain ⟨y5, hq6, hf⟩ := bi_out hf
      refine cw_ni (As := [.int x1, .int (f 5 (Int32.toNatClampNeg x5))]) (rest := [.int y2]) ⟨hx, hb, hml, hown, hts⟩ xP_S hK hX0 hS hP (c_X9_isIn hj l x1 (f 5 (Int32.toNatClampNeg x5)) f t y5 hq6) ⟨va_cnB 2 hts gX0_lookAtSide_X9_isIn_n37 rfl rfl rfl (nlM_6 hX0) (hts (.initialized RX9) (List.mem_of_getElem? (i := 5) rfl)) (by decide +kernel) ⟨Nat.le_trans (Nat.le_of_ble_eq_true rfl) hR.1, Nat.le_trans (Nat.le_of_ble_eq_true rfl) hR.2⟩, hts (.static yX9_isIn) (List.mem_of_getElem? (i := 4) rfl), trivial⟩ rfl hl.1 rfl (Nat.le_of_ble_eq_true rfl) ⟨Nat.zero_le _, Nat.zero_le _⟩ dX0_lookAtSide_45 (fun H locs hP hS => ?_)
      refine lv_icmp_eq (tgt := 70) hx hb dX0_lookAtSide_48 (by decide) (fun c48 => ?_) (fun c48 => ?_)
      · have hf := itT hf c48
        obtain ⟨x5_7, ex5_7, hf⟩ := sq_out hf
        refine lv_iinc (v := x5_7) (lv' := [(5, .int x5_7), (0, .ref (ad 40)), (1, .int x1), (2, .int x2), (3, .int x3), (4, .int x4)]) hx hb dX0_lookAtSide_70 hl (k := 5) rfl (by rw [ex5_7]; rfl) (by decide) rfl (fun ls hl => ?_)
        refine lv_goto (tgt := 8) hx hb dX0_lookAtSide_73 (by decide) ?_
        exact ih x3 x4 x5_7 hf H locs ls hP hS (lv_sub hl [1, 2, 3, 4, 5, 0] rfl)
      · have hf := itF hf c48
        refine lv_iload_n hx hb dX0_lookAtSide_51 rfl (lv_at hl 3 rfl) ?_
        refine lv_aload_n hx hb dX0_lookAtSide_52 rfl (lv_at hl 0 rfl) ?_
        refine lv_iload hx hb dX0_lookAtSide_53 (lv_at hl 5 rfl) ?_
        refine lv_iload_n hx hb dX0_lookAtSide_55 rfl (lv_at hl 2 rfl) ?_
        obtain ⟨y8, hq9, hf⟩ := bi_out hf
        refine cw_vi (As := [.int x5, .int x2]) (rest := [.int x3]) ⟨hx, hb, hml, hown, hts⟩ xP_S hK hX0 hS hP (c_X0_timesBorne hj l x5 x2 f t y8 hq9) (cwV 2 hts gX0_lookAtSide_X0_timesBorne rfl rfl rfl (by decide +kernel) ⟨Nat.le_trans (Nat.le_of_ble_eq_true rfl) hR.1, Nat.le_trans (Nat.le_of_ble_eq_true rfl) hR.2⟩) (va_recv hK hP (ci := 0) (q0 := 40) rfl rfl) rfl hl.1 rfl (Nat.le_of_ble_eq_true rfl) ⟨Nat.zero_le _, Nat.zero_le _⟩ dX0_lookAtSide_56 (fun H locs hP hS => ?_)
        refine lv_iadd hx hb dX0_lookAtSide_59 ?_
        obtain ⟨x3_10, ex3_10, hf⟩ := sq_out hf
        refine lv_nmi ex3_10 ?_
        refine lv_istore_n (lv' := [(3, .int x3_10), (0, .ref (ad 40)), (1, .int x1), (2, .int x2), (4, .int x4), (5, .int x5)]) hx hb dX0_lookAtSide_60 rfl hl (by decide) rfl (fun ls hl => ?_)
        refine lv_iload hx hb dX0_lookAtSide_61 (lv_at hl 4 rfl) ?_
        refine lv_iconst (v := 1) hx hb dX0_lookAtSide_63 (by decide) ?_
        refine lv_iload hx hb dX0_lookAtSide_64 (lv_at hl 5 rfl) ?_
        refine lv_ishl hx hb dX0_lookAtSide_66 ?_
        refine lv_ior hx hb dX0_lookAtSide_67 ?_
        obtain ⟨x4_11, ex4_11, hf⟩ := sq_out hf
        refine lv_nmi ex4_11 ?_
        refine lv_istore (lv' := [(4, .int x4_11), (3, .int x3_10), (0, .ref (ad 40)), (1, .int x1), (2, .int x2), (5, .int x5)]) hx hb dX0_lookAtSide_68 hl (by decide) rfl (fun ls hl => ?_)
        obtain ⟨x5_12, ex5_12, hf⟩ := sq_out hf
        refine lv_iinc (v := x5_12) (lv' := [(5, .int x5_12), (4, .int x4_11), (3, .int x3_10), (0, .ref (ad 40)), (1, .int x1), (2, .int x2)]) hx hb dX0_lookAtSide_70 hl (k := 5) rfl (by rw [ex5_12]; rfl) (by decide) rfl (fun ls hl => ?_)
        refine lv_goto (tgt := 8) hx hb dX0_lookAtSide_73 (by decide) ?_
        exact ih x3_10 x4_11 x5_12 hf H locs ls hP hS (lv_sub hl [3, 4, 5, 2, 1, 0] rfl)
def q_X0_lookAtSide (N : Nat) (x1 : Int32) (x2 : Int32) (f : mM) : Option (mM) := bi2 (lp_X0_lookAtSide_8 N x1 x2 f N 0 0 0) (fun y13 y14 => sq (fun (_ : Unit) => sq (st2 f 40 2 y13) (fun f17 => sq (st2 f17 40 3 y14) (fun f18 => some f18))) (fun k16 => if y13 < (f 40 2) then k16 () else if y13 = (f 40 2) then if (f 40 3) ≤ y14 then some f else k16 () else some f))
set_option maxHeartbeats 4000000 in
set_option maxRecDepth 100000 in
theorem b_X0_lookAtSide (C0 : cX p s m args meth c cX0_lookAtSide 6 none RX0 wsX0_lookAtSide D cy (xP ad sk sv)) (hj : jP ad) (hR : 1 ≤ R.frames ∧ 22 ≤ R.locals) (N : Nat) (x1 : Int32) (x2 : Int32) (f : mM) (t : Int64) (fR : mM) (hf : q_X0_lookAtSide N x1 x2 f = some fR) (kr : ∀ (H : Heap) (locs : List Loc) (ls : Array Slot) (pc : Nat), decode cX0_lookAtSide pc = .ok (.return_, 1) → va_P D vwCl (wP ad cy fR t) H → va_S (aP ad) s.heap H locs → W p l e R s m args below meth c H locs 0 0 Q (F0 m pc ls [])) (H : Heap) (locs : List Loc) (ls : Array Slot) (hP : va_P D vwCl (wP ad cy f t) H) (hS : va_S (aP ad) s.heap H locs) (hl : lv_has ls 6 [(0, .ref (ad 40)), (1, .int x1), (2, .int x2)]) : W p l e R s m args below meth c H locs 0 0 Q (F0 m 0 ls []) := by
  obtain ⟨hx, hb, hr, hml, hown, hts, hlocks, hK, hX0⟩ := id C0
  have lk9 := hts (.fieldLink RX0 9 "PlankNine$Cuts" "leastSum" "I") (List.mem_of_getElem? (i := 2) rfl)
  have hiX0 : ∀ w ∈ u_ws RX0 TX0 6, w ∈ wsX0_lookAtSide := fun w h => List.mem_cons_of_mem _ (List.mem_append_left _ (List.mem_append_left _ (List.mem_append_right _ h)))
  have lk15 := hts (.fieldLink RX0 15 "PlankNine$Cuts" "leastBits" "I") (List.mem_of_getElem? (i := 3) rfl)
  unfold q_X0_lookAtSide at hf
  refine lv_iconst (v := 0) hx hb dX0_lookAtSide_0 (by decide) ?_
  refine lv_istore_n (lv' := [(3, .int 0), (0, .ref (ad 40)), (1, .int x1), (2, .int x2)]) hx hb dX0_lookAtSide_1 rfl hl (by decide) rfl (fun ls hl => ?_)
  refine lv_iconst (v := 0) hx hb dX0_lookAtSide_2 (by decide) ?_
  refine lv_istore (lv' := [(4, .int 0), (3, .int 0), (0, .ref (ad 40)), (1, .int x1), (2, .int x2)]) hx hb dX0_lookAtSide_3 hl (by decide) rfl (fun ls hl => ?_)
  refine lv_iconst (v := 0) hx hb dX0_lookAtSide_5 (by decide) ?_
  refine lv_istore (lv' := [(5, .int 0), (4, .int 0), (3, .int 0), (0, .ref (ad 40)), (1, .int x1), (2, .int x2)]) hx hb dX0_lookAtSide_6 hl (by decide) rfl (fun ls hl => ?_)
  obtain ⟨y13, y14, hlp15, hf⟩ := bi2_out hf
  refine lp_X0_lookAtSide_8_w C0 hj hR N x1 x2 f t y13 y14 ?_ N 0 0 0 hlp15 H locs ls hP hS (lv_sub hl [3, 4, 5, 2, 1, 0] rfl)
  intro H locs ls hP hS hl
  refine lv_iload_n hx hb dX0_lookAtSide_76 rfl (lv_at hl 1 rfl) ?_
  refine lv_aload_n hx hb dX0_lookAtSide_77 rfl (lv_at hl 0 rfl) ?_
  refine va_get (D := D) (ci := 0) (v := .int (f 40 2)) (C := RX0) (T := TX0) (N := 6) hx hb hts hiX0 hown hK hP 40 rfl rfl 2 (by decide) lk9 (fun _ h9 => h9) rfl dX0_lookAtSide_78 ?_
  obtain ⟨k16, ek16, hf⟩ := sq_out hf
  have hk16 : k16 () = some fR → ∀ (H : Heap) (locs : List Loc) (ls : Array Slot), va_P D vwCl (wP ad cy f t) H → va_S (aP ad) s.heap H locs → lv_has ls 6 [(0, .ref (ad 40)), (3, .int y13), (4, .int y14)] → W p l e R s m args below meth c H locs 0 0 Q (F0 m 101 ls []) := by
    intro hf H locs ls hP hS hl
    have hf := sk1 ek16 () hf
    refine lv_aload_n hx hb dX0_lookAtSide_101 rfl (lv_at hl 0 rfl) ?_
    refine lv_iload_n hx hb dX0_lookAtSide_102 rfl (lv_at hl 1 rfl) ?_
    obtain ⟨f17, ef17, hf⟩ := sq_out hf
    refine va_put (D := D) (ci := 0) (v := .int y13) (ty := .int) (C := RX0) (T := TX0) (N := 6) hx hb hts hiX0 tyX0 tyX0_ok nmX0 hown hK hP (dP hj f t) hS 40 rfl rfl 2 (by decide) lk9 (fun _ h9 => h9) rfl (by decide +kernel) rfl rfl (Nat.le_of_ble_eq_true rfl) dX0_lookAtSide_103 (fun H locs hP _ hS => ?_)
    have hP := sP_40_2 ef17 hP
    refine lv_aload_n hx hb dX0_lookAtSide_106 rfl (lv_at hl 0 rfl) ?_
    refine lv_iload hx hb dX0_lookAtSide_107 (lv_at hl 2 rfl) ?_
    obtain ⟨f18, ef18, hf⟩ := sq_out hf
    refine va_put (D := D) (ci := 0) (v := .int y14) (ty := .int) (C := RX0) (T := TX0) (N := 6) hx hb hts hiX0 tyX0 tyX0_ok nmX0 hown hK hP (dP hj f17 t) hS 40 rfl rfl 3 (by decide) lk15 (fun _ h9 => h9) rfl (by decide +kernel) rfl rfl (Nat.le_of_ble_eq_true rfl) dX0_lookAtSide_109 (fun H locs hP _ hS => ?_)
    have hP := sP_40_3 ef18 hP
    obtain rfl := Option.some.inj hf
    exact kr H locs ls 112 dX0_lookAtSide_112 hP hS
  refine lv_icmp_lt (tgt := 101) hx hb dX0_lookAtSide_81 (by decide) (fun c81 => ?_) (fun c81 => ?_)
  · have hf := itT hf c81
    exact hk16 hf H locs ls hP hS (lv_sub hl [0, 1, 2] rfl)
  · have hf := itF hf c81
    refine lv_iload_n hx hb dX0_lookAtSide_84 rfl (lv_at hl 1 rfl) ?_
    refine lv_aload_n hx hb dX0_lookAtSide_85 rfl (lv_at hl 0 rfl) ?_
    refine va_get (D := D) (ci := 0) (v := .int (f 40 2)) (C := RX0) (T := TX0) (N := 6) hx hb hts hiX0 hown hK hP 40 rfl rfl 2 (by decide) lk9 (fun _ h9 => h9) rfl dX0_lookAtSide_86 ?_
    refine lv_icmp_ne (tgt := 112) hx hb dX0_lookAtSide_89 (by decide) (fun c89 => ?_) (fun c89 => ?_)
    · have hf := itF hf c89
      obtain rfl := Option.some.inj hf
      exact kr H locs ls 112 dX0_lookAtSide_112 hP hS
    · have hf := itT hf c89
      refine lv_iload hx hb dX0_lookAtSide_92 (lv_at hl 2 rfl) ?_
      refine lv_aload_n hx hb dX0_lookAtSide_94 rfl (lv_at hl 0 rfl) ?_
      refine va_get (D := D) (ci := 0) (v := .int (f 40 3)) (C := RX0) (T := TX0) (N := 6) hx hb hts hiX0 hown hK hP 40 rfl rfl 3 (by decide) lk15 (fun _ h9 => h9) rfl dX0_lookAtSide_95 ?_
      refine lv_icmp_ge (tgt := 112) hx hb dX0_lookAtSide_98 (by decide) (fun c98 => ?_) (fun c98 => ?_)
      · have hf := itT hf c98
        obtain rfl := Option.some.inj hf
        exact kr H locs ls 112 dX0_lookAtSide_112 hP hS
      · have hf := itF hf c98
        exact hk16 hf H locs ls hP hS (lv_sub hl [0, 1, 2] rfl)
set_option maxHeartbeats 4000000 in
set_option maxRecDepth 100000 in
theorem c_X0_lookAtSide (hj : jP ad) (l : Launch) (N : Nat) (x1 : Int32) (x2 : Int32) (f : mM) (t : Int64) (fR : mM) (hf : q_X0_lookAtSide N x1 x2 f = some fR) : Met l yX0_lookAtSide wsX0_lookAtSide ({ frames := 1, cells := 0, slots := 0, locals := 22 }) (va_Pc ([.ref (ad 40), .int x1, .int x2]) (pre D cy (wP ad cy) (xP ad sk sv) f t)) (va_Qv (fun (u : mM × Int64) => u = (fR, t)) (atW D (wP ad cy)) (aP ad)) 0 0 (aP ad) := by
  refine Met.ofW (cc := cX0_lookAtSide) (maxL := 6) (ret := none) (by decide) rfl ?_
  intro p e s m args below meth c s₁ B hml hv
  obtain ⟨rfl, hP, hK, hX0⟩ := hv
  have hl := lv_entry ([.ref (ad 40), .int x1, .int x2]) (n := 6) (Nat.le_of_ble_eq_true rfl)
  rw [lg_entry_eq]
  generalize (lg_sl ([.ref (ad 40), .int x1, .int x2]) ++ List.replicate (6 - (lg_sl ([.ref (ad 40), .int x1, .int x2])).length) Slot.unset).toArray = ls at hl ⊢
  have hlocks := B.notSynchronized
  exact b_X0_lookAtSide ⟨B.exec, B.bytes, B.returns, hml, findClass_of_methodNamed B.named, atoms_spec (ws := wsX0_lookAtSide) B.pre, hlocks, hK, hX0⟩ hj ⟨Nat.le_refl _, Nat.le_refl _⟩ N x1 x2 f t fR hf (fun H locs ls pc hd hP hS => W.vret B.exec B.bytes B.returns (fun t2 ht hW => ⟨⟨(fR, t), rfl, rfl, by show va_P D vwCl _ t2.heap; rw [ht]; exact hP⟩, hS.F ht⟩) hS.2.2 hd) s.heap [] ls hP va_S.rf hl
def lp_X0_findLeast_14 (N : Nat) (x1 : Int32) (x2 : Int32) (x3 : Int32) : Nat → Int32 → mM → Option (mM)
  | 0, _, _ => none
  | n + 1, x4, f => if (1 <<< ((f 3 0) &&& 31)) ≤ x4 then some f else bi (q_X9_isIn x4 x2) (fun y3 => if y3 = 0 then sq (x4 + 1) (fun x4_5 => lp_X0_findLeast_14 N x1 x2 x3 n x4_5 f) else bi (q_X9_isIn x4 x3) (fun y6 => if y6 = 0 then bi (q_X0_lookAtSide N x4 x1 f) (fun f9 => sq (x4 + 1) (fun x4_11 => lp_X0_findLeast_14 N x1 x2 x3 n x4_11 f9)) else sq (x4 + 1) (fun x4_8 => lp_X0_findLeast_14 N x1 x2 x3 n x4_8 f)))
theorem lp_X0_findLeast_14_s (N : Nat) (x1 : Int32) (x2 : Int32) (x3 : Int32) (n : Nat) (x4 : Int32) (f : mM) : lp_X0_findLeast_14 N x1 x2 x3 (n + 1) x4 f = (if (1 <<< ((f 3 0) &&& 31)) ≤ x4 then some f else bi (q_X9_isIn x4 x2) (fun y3 => if y3 = 0 then sq (x4 + 1) (fun x4_5 => lp_X0_findLeast_14 N x1 x2 x3 n x4_5 f) else bi (q_X9_isIn x4 x3) (fun y6 => if y6 = 0 then bi (q_X0_lookAtSide N x4 x1 f) (fun f9 => sq (x4 + 1) (fun x4_11 => lp_X0_findLeast_14 N x1 x2 x3 n x4_11 f9)) else sq (x4 + 1) (fun x4_8 => lp_X0_findLeast_14 N x1 x2 x3 n x4_8 f)))) := rfl
set_option maxHeartbeats 4000000 in
set_option maxRecDepth 100000 in
theorem lp_X0_findLeast_14_w (C0 : cX p s m args meth c cX0_findLeast 5 none RX0 wsX0_findLeast D cy (xP ad sk sv)) (hj : jP ad) (hR : 2 ≤ R.frames ∧ 47 ≤ R.locals) (N : Nat) (x1 : Int32) (x2 : Int32) (x3 : Int32) (t : Int64) (fR : mM) (kx59 : ∀ (H : Heap) (locs : List Loc) (ls : Array Slot), va_P D vwCl (wP ad cy fR t) H → va_S (aP ad) s.heap H locs → lv_has ls 5 [] → W p l e R s m args below meth c H locs 0 0 Q (F0 m 59 ls [])) : ∀ (n : Nat) (x4 : Int32) (f : mM), lp_X0_findLeast_14 N x1 x2 x3 n x4 f = some fR → ∀ (H : Heap) (locs : List Loc) (ls : Array Slot), va_P D vwCl (wP ad cy f t) H → va_S (aP ad) s.heap H locs → lv_has ls 5 [(0, .ref (ad 40)), (1, .int x1), (2, .int x2), (3, .int x3), (4, .int x4)] → W p l e R s m args below meth c H locs 0 0 Q (F0 m 14 ls []) := by
  obtain ⟨hx, hb, hr, hml, hown, hts, hlocks, hK, hX0⟩ := id C0
  have lk24 := hts (.fieldLink RX0 24 "PlankNine$Cuts" "marsh" "LPlankNine$Marsh;") (List.mem_of_getElem? (i := 3) rfl)
  have hiX0 : ∀ w ∈ u_ws RX0 TX0 6, w ∈ wsX0_findLeast := fun w h => List.mem_cons_of_mem _ (List.mem_append_left _ (List.mem_append_left _ (List.mem_append_right _ h)))
  have ln32 := nlF_3 (args := args) hX0
  have hiX2 : ∀ w ∈ u_ws RX2 TX2 12, w ∈ wsX0_findLeast := fun w h => List.mem_cons_of_mem _ (List.mem_append_left _ (List.mem_append_right _ h))
  intro n
  induction n with
  | zero =>
    intro x4 f hf
    exact no_none hf
  | succ n ih =>
    intro x4 f hf H locs ls hP hS hl
    have hf := (lp_X0_findLeast_14_s N x1 x2 x3 n x4 f).symm.trans hf
    refine lv_iload hx hb dX0_findLeast_14 (lv_at hl 4 rfl) ?_
    refine lv_iconst (v := 1) hx hb dX0_findLeast_16 (by decide) ?_
    refine lv_aload_n hx hb dX0_findLeast_17 rfl (lv_at hl 0 rfl) ?_
    refine va_get (D := D) (ci := 0) (v := .ref (ad 3)) (C := RX0) (T := TX0) (N := 6) hx hb hts hiX0 hown hK hP 40 rfl rfl 0 (by decide) lk24 (fun _ h9 => h9) rfl dX0_findLeast_18 ?_
    refine va_getN (D := D) (ci := 2) (v := .int (f 3 0)) (C := RX2) (T := TX2) (N := 12) hx hb hts hiX2 hown hK hP 3 rfl rfl 0 (by decide) ln32 (fun _ h9 => h9) rfl dX0_findLeast_21 ?_
    refine lv_ishl hx hb dX0_findLeast_24 ?_
    refine lv_icmp_ge (tgt := 59) hx hb dX0_findLeast_25 (by decide) (fun c25 => ?_) (fun c25 => ?_)
    · have hf := itT hf c25
      obtain rfl := Option.some.inj hf
      exact kx59 H locs ls hP hS (lv_sub hl [] rfl)
    · have hf := itF hf c25
      refine lv_iload hx hb dX0_findLeast_28 (lv_at hl 4 rfl) ?_
      refine lv_iload_n hx hb dX0_findLeast_30 rfl (lv_at hl 2 rfl) ?_
      obtain ⟨y3, hq4, hf⟩ := bi_out hf
      refine cw_ni (As := [.int x4, .int x2]) (rest := []) ⟨hx, hb, hml, hown, hts⟩ xP_S hK hX0 hS hP (c_X9_isIn hj l x4 x2 f t y3 hq4) ⟨va_cnB 2 hts gX0_findLeast_X9_isIn_n37 rfl rfl rfl (nlM_6 hX0) (hts (.initialized RX9) (List.mem_of_getElem? (i := 5) rfl)) (by decide +kernel) ⟨Nat.le_trans (Nat.le_of_ble_eq_true rfl) hR.1, Nat.le_trans (Nat.le_of_ble_eq_true rfl) hR.2⟩, hts (.static yX9_isIn) (List.mem_of_getElem? (i := 4) rfl), trivial⟩ rfl hl.1 rfl (Nat.le_of_ble_eq_true rfl) ⟨Nat.zero_le _, Nat.zero_le _⟩ dX0_findLeast_31 (fun H locs hP hS => ?_)
      refine lv_if_eq (tgt := 53) hx hb dX0_findLeast_34 (by decide) (fun c34 => ?_) (fun c34 => ?_)
      · have hf := itT hf c34
        obtain ⟨x4_5, ex4_5, hf⟩ := sq_out hf
        refine lv_iinc (v := x4_5) (lv' := [(4, .int x4_5), (0, .ref (ad 40)), (1, .int x1), (2, .int x2), (3, .int x3)]) hx hb dX0_findLeast_53 hl (k := 4) rfl (by rw [ex4_5]; rfl) (by decide) rfl (fun ls hl => ?_)
        refine lv_goto (tgt := 14) hx hb dX0_findLeast_56 (by decide) ?_
        exact ih x4_5 f hf H locs ls hP hS (lv_sub hl [1, 2, 3, 4, 0] rfl)
      · have hf := itF hf c34
        refine lv_iload hx hb dX0_findLeast_37 (lv_at hl 4 rfl) ?_
        refine lv_iload_n hx hb dX0_findLeast_39 rfl (lv_at hl 3 rfl) ?_
        obtain ⟨y6, hq7, hf⟩ := bi_out hf
        refine cw_ni (As := [.int x4, .int x3]) (rest := []) ⟨hx, hb, hml, hown, hts⟩ xP_S hK hX0 hS hP (c_X9_isIn hj l x4 x3 f t y6 hq7) ⟨va_cnB 2 hts gX0_findLeast_X9_isIn_n37 rfl rfl rfl (nlM_6 hX0) (hts (.initialized RX9) (List.mem_of_getElem? (i := 5) rfl)) (by decide +kernel) ⟨Nat.le_trans (Nat.le_of_ble_eq_true rfl) hR.1, Nat.le_trans (Nat.le_of_ble_eq_true rfl) hR.2⟩, hts (.static yX9_isIn) (List.mem_of_getElem? (i := 4) rfl), trivial⟩ rfl hl.1 rfl (Nat.le_of_ble_eq_true rfl) ⟨Nat.zero_le _, Nat.zero_le _⟩ dX0_findLeast_40 (fun H locs hP hS => ?_)
        refine lv_if_ne (tgt := 53) hx hb dX0_findLeast_43 (by decide) (fun c43 => ?_) (fun c43 => ?_)
        · have hf := itF hf c43
          obtain ⟨x4_8, ex4_8, hf⟩ := sq_out hf
          refine lv_iinc (v := x4_8) (lv' := [(4, .int x4_8), (0, .ref (ad 40)), (1, .int x1), (2, .int x2), (3, .int x3)]) hx hb dX0_findLeast_53 hl (k := 4) rfl (by rw [ex4_8]; rfl) (by decide) rfl (fun ls hl => ?_)
          refine lv_goto (tgt := 14) hx hb dX0_findLeast_56 (by decide) ?_
          exact ih x4_8 f hf H locs ls hP hS (lv_sub hl [1, 2, 3, 4, 0] rfl)
        · have hf := itT hf c43
          refine lv_aload_n hx hb dX0_findLeast_46 rfl (lv_at hl 0 rfl) ?_
          refine lv_iload hx hb dX0_findLeast_47 (lv_at hl 4 rfl) ?_
          refine lv_iload_n hx hb dX0_findLeast_49 rfl (lv_at hl 1 rfl) ?_
          obtain ⟨f9, hq10, hf⟩ := bi_out hf
          refine cw_vv (As := [.int x4, .int x1]) (rest := []) ⟨hx, hb, hml, hown, hts⟩ xP_S hK hX0 hS hP (c_X0_lookAtSide hj l N x4 x1 f t f9 hq10) (cwV 2 hts gX0_findLeast_X0_lookAtSide rfl rfl rfl (by decide +kernel) ⟨Nat.le_trans (Nat.le_of_ble_eq_true rfl) hR.1, Nat.le_trans (Nat.le_of_ble_eq_true rfl) hR.2⟩) (va_recv hK hP (ci := 0) (q0 := 40) rfl rfl) rfl hl.1 rfl (Nat.le_of_ble_eq_true rfl) ⟨Nat.zero_le _, Nat.zero_le _⟩ dX0_findLeast_50 (fun H locs hP hS => ?_)
          obtain ⟨x4_11, ex4_11, hf⟩ := sq_out hf
          refine lv_iinc (v := x4_11) (lv' := [(4, .int x4_11), (0, .ref (ad 40)), (1, .int x1), (2, .int x2), (3, .int x3)]) hx hb dX0_findLeast_53 hl (k := 4) rfl (by rw [ex4_11]; rfl) (by decide) rfl (fun ls hl => ?_)
          refine lv_goto (tgt := 14) hx hb dX0_findLeast_56 (by decide) ?_
          exact ih x4_11 f9 hf H locs ls hP hS (lv_sub hl [1, 2, 3, 4, 0] rfl)
def q_X0_findLeast (N : Nat) (x1 : Int32) (x2 : Int32) (x3 : Int32) (f : mM) : Option (mM) := sq (st2 f 40 2 82) (fun f1 => sq (st2 f1 40 3 0) (fun f2 => bi (lp_X0_findLeast_14 N x1 x2 x3 N 0 f2) (fun f12 => some f12)))
set_option maxHeartbeats 4000000 in
set_option maxRecDepth 100000 in
theorem b_X0_findLeast (C0 : cX p s m args meth c cX0_findLeast 5 none RX0 wsX0_findLeast D cy (xP ad sk sv)) (hj : jP ad) (hR : 2 ≤ R.frames ∧ 47 ≤ R.locals) (N : Nat) (x1 : Int32) (x2 : Int32) (x3 : Int32) (f : mM) (t : Int64) (fR : mM) (hf : q_X0_findLeast N x1 x2 x3 f = some fR) (kr : ∀ (H : Heap) (locs : List Loc) (ls : Array Slot) (pc : Nat), decode cX0_findLeast pc = .ok (.return_, 1) → va_P D vwCl (wP ad cy fR t) H → va_S (aP ad) s.heap H locs → W p l e R s m args below meth c H locs 0 0 Q (F0 m pc ls [])) (H : Heap) (locs : List Loc) (ls : Array Slot) (hP : va_P D vwCl (wP ad cy f t) H) (hS : va_S (aP ad) s.heap H locs) (hl : lv_has ls 5 [(0, .ref (ad 40)), (1, .int x1), (2, .int x2), (3, .int x3)]) : W p l e R s m args below meth c H locs 0 0 Q (F0 m 0 ls []) := by
  obtain ⟨hx, hb, hr, hml, hown, hts, hlocks, hK, hX0⟩ := id C0
  have lk9 := hts (.fieldLink RX0 9 "PlankNine$Cuts" "leastSum" "I") (List.mem_of_getElem? (i := 1) rfl)
  have hiX0 : ∀ w ∈ u_ws RX0 TX0 6, w ∈ wsX0_findLeast := fun w h => List.mem_cons_of_mem _ (List.mem_append_left _ (List.mem_append_left _ (List.mem_append_right _ h)))
  have lk15 := hts (.fieldLink RX0 15 "PlankNine$Cuts" "leastBits" "I") (List.mem_of_getElem? (i := 2) rfl)
  unfold q_X0_findLeast at hf
  refine lv_aload_n hx hb dX0_findLeast_0 rfl (lv_at hl 0 rfl) ?_
  refine lv_bipush (v := 82) hx hb dX0_findLeast_1 (by decide) ?_
  obtain ⟨f1, ef1, hf⟩ := sq_out hf
  refine va_put (D := D) (ci := 0) (v := .int 82) (ty := .int) (C := RX0) (T := TX0) (N := 6) hx hb hts hiX0 tyX0 tyX0_ok nmX0 hown hK hP (dP hj f t) hS 40 rfl rfl 2 (by decide) lk9 (fun _ h9 => h9) rfl (by decide +kernel) rfl rfl (Nat.le_of_ble_eq_true rfl) dX0_findLeast_3 (fun H locs hP _ hS => ?_)
  have hP := sP_40_2 ef1 hP
  refine lv_aload_n hx hb dX0_findLeast_6 rfl (lv_at hl 0 rfl) ?_
  refine lv_iconst (v := 0) hx hb dX0_findLeast_7 (by decide) ?_
  obtain ⟨f2, ef2, hf⟩ := sq_out hf
  refine va_put (D := D) (ci := 0) (v := .int 0) (ty := .int) (C := RX0) (T := TX0) (N := 6) hx hb hts hiX0 tyX0 tyX0_ok nmX0 hown hK hP (dP hj f1 t) hS 40 rfl rfl 3 (by decide) lk15 (fun _ h9 => h9) rfl (by decide +kernel) rfl rfl (Nat.le_of_ble_eq_true rfl) dX0_findLeast_8 (fun H locs hP _ hS => ?_)
  have hP := sP_40_3 ef2 hP
  refine lv_iconst (v := 0) hx hb dX0_findLeast_11 (by decide) ?_
  refine lv_istore (lv' := [(4, .int 0), (0, .ref (ad 40)), (1, .int x1), (2, .int x2), (3, .int x3)]) hx hb dX0_findLeast_12 hl (by decide) rfl (fun ls hl => ?_)
  obtain ⟨f12, hlp13, hf⟩ := bi_out hf
  refine lp_X0_findLeast_14_w C0 hj hR N x1 x2 x3 t f12 ?_ N 0 f2 hlp13 H locs ls hP hS (lv_sub hl [1, 2, 3, 4, 0] rfl)
  intro H locs ls hP hS hl
  obtain rfl := Option.some.inj hf
  exact kr H locs ls 59 dX0_findLeast_59 hP hS
set_option maxHeartbeats 4000000 in
set_option maxRecDepth 100000 in
theorem c_X0_findLeast (hj : jP ad) (l : Launch) (N : Nat) (x1 : Int32) (x2 : Int32) (x3 : Int32) (f : mM) (t : Int64) (fR : mM) (hf : q_X0_findLeast N x1 x2 x3 f = some fR) : Met l yX0_findLeast wsX0_findLeast ({ frames := 2, cells := 0, slots := 0, locals := 47 }) (va_Pc ([.ref (ad 40), .int x1, .int x2, .int x3]) (pre D cy (wP ad cy) (xP ad sk sv) f t)) (va_Qv (fun (u : mM × Int64) => u = (fR, t)) (atW D (wP ad cy)) (aP ad)) 0 0 (aP ad) := by
  refine Met.ofW (cc := cX0_findLeast) (maxL := 5) (ret := none) (by decide) rfl ?_
  intro p e s m args below meth c s₁ B hml hv
  obtain ⟨rfl, hP, hK, hX0⟩ := hv
  have hl := lv_entry ([.ref (ad 40), .int x1, .int x2, .int x3]) (n := 5) (Nat.le_of_ble_eq_true rfl)
  rw [lg_entry_eq]
  generalize (lg_sl ([.ref (ad 40), .int x1, .int x2, .int x3]) ++ List.replicate (5 - (lg_sl ([.ref (ad 40), .int x1, .int x2, .int x3])).length) Slot.unset).toArray = ls at hl ⊢
  have hlocks := B.notSynchronized
  exact b_X0_findLeast ⟨B.exec, B.bytes, B.returns, hml, findClass_of_methodNamed B.named, atoms_spec (ws := wsX0_findLeast) B.pre, hlocks, hK, hX0⟩ hj ⟨Nat.le_refl _, Nat.le_refl _⟩ N x1 x2 x3 f t fR hf (fun H locs ls pc hd hP hS => W.vret B.exec B.bytes B.returns (fun t2 ht hW => ⟨⟨(fR, t), rfl, rfl, by show va_P D vwCl _ t2.heap; rw [ht]; exact hP⟩, hS.F ht⟩) hS.2.2 hd) s.heap [] ls hP va_S.rf hl
def lp_X0_findBestExchange_32 (N : Nat) (x1 : Int32) (x2 : Int32) (x3 : Int32) (x4 : Int32) : Nat → Int32 → mM → Option (mM)
  | 0, _, _ => none
  | n + 1, x5, f => if (f 3 1) ≤ x5 then some f else bi (q_X3_swap x4 x5 f) (fun f4 => bi (q_X0_findLeast N x1 x2 x3 f4) (fun f6 => bi (q_X3_swap x4 x5 f6) (fun f8 => if (f8 40 2) ≤ (f8 40 4) then sq (x5 + 1) (fun x5_10 => lp_X0_findBestExchange_32 N x1 x2 x3 x4 n x5_10 f8) else sq (st2 f8 40 4 (f8 40 2)) (fun f11 => sq (st2 f11 40 5 ((10 * x4) + x5)) (fun f12 => sq (x5 + 1) (fun x5_13 => lp_X0_findBestExchange_32 N x1 x2 x3 x4 n x5_13 f12))))))
theorem lp_X0_findBestExchange_32_s (N : Nat) (x1 : Int32) (x2 : Int32) (x3 : Int32) (x4 : Int32) (n : Nat) (x5 : Int32) (f : mM) : lp_X0_findBestExchange_32 N x1 x2 x3 x4 (n + 1) x5 f = (if (f 3 1) ≤ x5 then some f else bi (q_X3_swap x4 x5 f) (fun f4 => bi (q_X0_findLeast N x1 x2 x3 f4) (fun f6 => bi (q_X3_swap x4 x5 f6) (fun f8 => if (f8 40 2) ≤ (f8 40 4) then sq (x5 + 1) (fun x5_10 => lp_X0_findBestExchange_32 N x1 x2 x3 x4 n x5_10 f8) else sq (st2 f8 40 4 (f8 40 2)) (fun f11 => sq (st2 f11 40 5 ((10 * x4) + x5)) (fun f12 => sq (x5 + 1) (fun x5_13 => lp_X0_findBestExchange_32 N x1 x2 x3 x4 n x5_13 f12))))))) := rfl
set_option maxHeartbeats 4000000 in
set_option maxRecDepth 100000 in
theorem lp_X0_findBestExchange_32_w (C0 : cX p s m args meth c cX0_findBestExchange 6 none RX0 wsX0_findBestExchange D cy (xP ad sk sv)) (hj : jP ad) (hR : 3 ≤ R.frames ∧ 71 ≤ R.locals) (N : Nat) (x1 : Int32) (x2 : Int32) (x3 : Int32) (x4 : Int32) (t : Int64) (fR : mM) (kx110 : ∀ (H : Heap) (locs : List Loc) (ls : Array Slot), va_P D vwCl (wP ad cy fR t) H → va_S (aP ad) s.heap H locs → lv_has ls 6 [(0, .ref (ad 40)), (1, .int x1), (2, .int x2), (3, .int x3), (4, .int x4)] → W p l e R s m args below meth c H locs 0 0 Q (F0 m 110 ls [])) : ∀ (n : Nat) (x5 : Int32) (f : mM), lp_X0_findBestExchange_32 N x1 x2 x3 x4 n x5 f = some fR → ∀ (H : Heap) (locs : List Loc) (ls : Array Slot), va_P D vwCl (wP ad cy f t) H → va_S (aP ad) s.heap H locs → lv_has ls 6 [(0, .ref (ad 40)), (1, .int x1), (2, .int x2), (3, .int x3), (4, .int x4), (5, .int x5)] → W p l e R s m args below meth c H locs 0 0 Q (F0 m 32 ls []) := by
  obtain ⟨hx, hb, hr, hml, hown, hts, hlocks, hK, hX0⟩ := id C0
  have lk24 := hts (.fieldLink RX0 24 "PlankNine$Cuts" "marsh" "LPlankNine$Marsh;") (List.mem_of_getElem? (i := 3) rfl)
  have hiX0 : ∀ w ∈ u_ws RX0 TX0 6, w ∈ wsX0_findBestExchange := fun w h => List.mem_cons_of_mem _ (List.mem_append_left _ (List.mem_append_left _ (List.mem_append_right _ h)))
  have ln45 := nlF_8 (args := args) hX0
  have hiX2 : ∀ w ∈ u_ws RX2 TX2 12, w ∈ wsX0_findBestExchange := fun w h => List.mem_cons_of_mem _ (List.mem_append_left _ (List.mem_append_right _ h))
  have lk28 := hts (.fieldLink RX0 28 "PlankNine$Cuts" "now" "LPlankNine$Now;") (List.mem_of_getElem? (i := 4) rfl)
  have lk9 := hts (.fieldLink RX0 9 "PlankNine$Cuts" "leastSum" "I") (List.mem_of_getElem? (i := 5) rfl)
  have lk18 := hts (.fieldLink RX0 18 "PlankNine$Cuts" "bestSum" "I") (List.mem_of_getElem? (i := 1) rfl)
  have lk21 := hts (.fieldLink RX0 21 "PlankNine$Cuts" "bestPair" "I") (List.mem_of_getElem? (i := 2) rfl)
  intro n
  induction n with
  | zero =>
    intro x5 f hf
    exact no_none hf
  | succ n ih =>
    intro x5 f hf H locs ls hP hS hl
    have hf := (lp_X0_findBestExchange_32_s N x1 x2 x3 x4 n x5 f).symm.trans hf
    refine lv_iload hx hb dX0_findBestExchange_32 (lv_at hl 5 rfl) ?_
    refine lv_aload_n hx hb dX0_findBestExchange_34 rfl (lv_at hl 0 rfl) ?_
    refine va_get (D := D) (ci := 0) (v := .ref (ad 3)) (C := RX0) (T := TX0) (N := 6) hx hb hts hiX0 hown hK hP 40 rfl rfl 0 (by decide) lk24 (fun _ h9 => h9) rfl dX0_findBestExchange_35 ?_
    refine va_getN (D := D) (ci := 2) (v := .int (f 3 1)) (C := RX2) (T := TX2) (N := 12) hx hb hts hiX2 hown hK hP 3 rfl rfl 1 (by decide) ln45 (fun _ h9 => h9) rfl dX0_findBestExchange_38 ?_
    refine lv_icmp_ge (tgt := 110) hx hb dX0_findBestExchange_41 (by decide) (fun c41 => ?_) (fun c41 => ?_)
    · have hf := itT hf c41
      obtain rfl := Option.some.inj hf
      exact kx110 H locs ls hP hS (lv_sub hl [0, 1, 2, 3, 4] rfl)
    · have hf := itF hf c41
      refine lv_aload_n hx hb dX0_findBestExchange_44 rfl (lv_at hl 0 rfl) ?_
      refine va_get (D := D) (ci := 0) (v := .ref (ad 23)) (C := RX0) (T := TX0) (N := 6) hx hb hts hiX0 hown hK hP 40 rfl rfl 1 (by decide) lk28 (fun _ h9 => h9) rfl dX0_findBestExchange_45 ?_
      refine lv_iload hx hb dX0_findBestExchange_48 (lv_at hl 4 rfl) ?_
      refine lv_iload hx hb dX0_findBestExchange_50 (lv_at hl 5 rfl) ?_
      obtain ⟨f4, hq5, hf⟩ := bi_out hf
      refine cw_vv (As := [.int x4, .int x5]) (rest := []) ⟨hx, hb, hml, hown, hts⟩ xP_S hK hX0 hS hP (c_X3_swap hj l x4 x5 f t f4 hq5) (cwV 2 hts gX0_findBestExchange_X3_swap rfl rfl rfl (by decide +kernel) ⟨Nat.le_trans (Nat.le_of_ble_eq_true rfl) hR.1, Nat.le_trans (Nat.le_of_ble_eq_true rfl) hR.2⟩) (va_recv hK hP (ci := 3) (q0 := 23) rfl rfl) rfl hl.1 rfl (Nat.le_of_ble_eq_true rfl) ⟨Nat.zero_le _, Nat.zero_le _⟩ dX0_findBestExchange_52 (fun H locs hP hS => ?_)
      refine lv_aload_n hx hb dX0_findBestExchange_55 rfl (lv_at hl 0 rfl) ?_
      refine lv_iload_n hx hb dX0_findBestExchange_56 rfl (lv_at hl 1 rfl) ?_
      refine lv_iload_n hx hb dX0_findBestExchange_57 rfl (lv_at hl 2 rfl) ?_
      refine lv_iload_n hx hb dX0_findBestExchange_58 rfl (lv_at hl 3 rfl) ?_
      obtain ⟨f6, hq7, hf⟩ := bi_out hf
      refine cw_vv (As := [.int x1, .int x2, .int x3]) (rest := []) ⟨hx, hb, hml, hown, hts⟩ xP_S hK hX0 hS hP (c_X0_findLeast hj l N x1 x2 x3 f4 t f6 hq7) (cwV 3 hts gX0_findBestExchange_X0_findLeast rfl rfl rfl (by decide +kernel) ⟨Nat.le_trans (Nat.le_of_ble_eq_true rfl) hR.1, Nat.le_trans (Nat.le_of_ble_eq_true rfl) hR.2⟩) (va_recv hK hP (ci := 0) (q0 := 40) rfl rfl) rfl hl.1 rfl (Nat.le_of_ble_eq_true rfl) ⟨Nat.zero_le _, Nat.zero_le _⟩ dX0_findBestExchange_59 (fun H locs hP hS => ?_)
      refine lv_aload_n hx hb dX0_findBestExchange_62 rfl (lv_at hl 0 rfl) ?_
      refine va_get (D := D) (ci := 0) (v := .ref (ad 23)) (C := RX0) (T := TX0) (N := 6) hx hb hts hiX0 hown hK hP 40 rfl rfl 1 (by decide) lk28 (fun _ h9 => h9) rfl dX0_findBestExchange_63 ?_
      refine lv_iload hx hb dX0_findBestExchange_66 (lv_at hl 4 rfl) ?_
      refine lv_iload hx hb dX0_findBestExchange_68 (lv_at hl 5 rfl) ?_
      obtain ⟨f8, hq9, hf⟩ := bi_out hf
      refine cw_vv (As := [.int x4, .int x5]) (rest := []) ⟨hx, hb, hml, hown, hts⟩ xP_S hK hX0 hS hP (c_X3_swap hj l x4 x5 f6 t f8 hq9) (cwV 2 hts gX0_findBestExchange_X3_swap rfl rfl rfl (by decide +kernel) ⟨Nat.le_trans (Nat.le_of_ble_eq_true rfl) hR.1, Nat.le_trans (Nat.le_of_ble_eq_true rfl) hR.2⟩) (va_recv hK hP (ci := 3) (q0 := 23) rfl rfl) rfl hl.1 rfl (Nat.le_of_ble_eq_true rfl) ⟨Nat.zero_le _, Nat.zero_le _⟩ dX0_findBestExchange_70 (fun H locs hP hS => ?_)
      refine lv_aload_n hx hb dX0_findBestExchange_73 rfl (lv_at hl 0 rfl) ?_
      refine va_get (D := D) (ci := 0) (v := .int (f8 40 2)) (C := RX0) (T := TX0) (N := 6) hx hb hts hiX0 hown hK hP 40 rfl rfl 2 (by decide) lk9 (fun _ h9 => h9) rfl dX0_findBestExchange_74 ?_
      refine lv_aload_n hx hb dX0_findBestExchange_77 rfl (lv_at hl 0 rfl) ?_
      refine va_get (D := D) (ci := 0) (v := .int (f8 40 4)) (C := RX0) (T := TX0) (N := 6) hx hb hts hiX0 hown hK hP 40 rfl rfl 4 (by decide) lk18 (fun _ h9 => h9) rfl dX0_findBestExchange_78 ?_
      refine lv_icmp_le (tgt := 104) hx hb dX0_findBestExchange_81 (by decide) (fun c81 => ?_) (fun c81 => ?_)
      · have hf := itT hf c81
        obtain ⟨x5_10, ex5_10, hf⟩ := sq_out hf
        refine lv_iinc (v := x5_10) (lv' := [(5, .int x5_10), (0, .ref (ad 40)), (1, .int x1), (2, .int x2), (3, .int x3), (4, .int x4)]) hx hb dX0_findBestExchange_104 hl (k := 5) rfl (by rw [ex5_10]; rfl) (by decide) rfl (fun ls hl => ?_)
        refine lv_goto (tgt := 32) hx hb dX0_findBestExchange_107 (by decide) ?_
        exact ih x5_10 f8 hf H locs ls hP hS (lv_sub hl [1, 2, 3, 4, 5, 0] rfl)
      · have hf := itF hf c81
        refine lv_aload_n hx hb dX0_findBestExchange_84 rfl (lv_at hl 0 rfl) ?_
        refine lv_aload_n hx hb dX0_findBestExchange_85 rfl (lv_at hl 0 rfl) ?_
        refine va_get (D := D) (ci := 0) (v := .int (f8 40 2)) (C := RX0) (T := TX0) (N := 6) hx hb hts hiX0 hown hK hP 40 rfl rfl 2 (by decide) lk9 (fun _ h9 => h9) rfl dX0_findBestExchange_86 ?_
        obtain ⟨f11, ef11, hf⟩ := sq_out hf
        refine va_put (D := D) (ci := 0) (v := .int (f8 40 2)) (ty := .int) (C := RX0) (T := TX0) (N := 6) hx hb hts hiX0 tyX0 tyX0_ok nmX0 hown hK hP (dP hj f8 t) hS 40 rfl rfl 4 (by decide) lk18 (fun _ h9 => h9) rfl (by decide +kernel) rfl rfl (Nat.le_of_ble_eq_true rfl) dX0_findBestExchange_89 (fun H locs hP _ hS => ?_)
        have hP := sP_40_4 ef11 hP
        refine lv_aload_n hx hb dX0_findBestExchange_92 rfl (lv_at hl 0 rfl) ?_
        refine lv_bipush (v := 10) hx hb dX0_findBestExchange_93 (by decide) ?_
        refine lv_iload hx hb dX0_findBestExchange_95 (lv_at hl 4 rfl) ?_
        refine lv_imul hx hb dX0_findBestExchange_97 ?_
        refine lv_iload hx hb dX0_findBestExchange_98 (lv_at hl 5 rfl) ?_
        refine lv_iadd hx hb dX0_findBestExchange_100 ?_
        obtain ⟨f12, ef12, hf⟩ := sq_out hf
        refine va_put (D := D) (ci := 0) (v := .int ((10 * x4) + x5)) (ty := .int) (C := RX0) (T := TX0) (N := 6) hx hb hts hiX0 tyX0 tyX0_ok nmX0 hown hK hP (dP hj f11 t) hS 40 rfl rfl 5 (by decide) lk21 (fun _ h9 => h9) rfl (by decide +kernel) rfl rfl (Nat.le_of_ble_eq_true rfl) dX0_findBestExchange_101 (fun H locs hP _ hS => ?_)
        have hP := sP_40_5 ef12 hP
        obtain ⟨x5_13, ex5_13, hf⟩ := sq_out hf
        refine lv_iinc (v := x5_13) (lv' := [(5, .int x5_13), (0, .ref (ad 40)), (1, .int x1), (2, .int x2), (3, .int x3), (4, .int x4)]) hx hb dX0_findBestExchange_104 hl (k := 5) rfl (by rw [ex5_13]; rfl) (by decide) rfl (fun ls hl => ?_)
        refine lv_goto (tgt := 32) hx hb dX0_findBestExchange_107 (by decide) ?_
        exact ih x5_13 f12 hf H locs ls hP hS (lv_sub hl [1, 2, 3, 4, 5, 0] rfl)
def lp_X0_findBestExchange_14 (N : Nat) (x1 : Int32) (x2 : Int32) (x3 : Int32) : Nat → Int32 → mM → Option (mM)
  | 0, _, _ => none
  | n + 1, x4, f => if (f 3 1) ≤ x4 then some f else sq (x4 + 1) (fun x5_3 => bi (lp_X0_findBestExchange_32 N x1 x2 x3 x4 N x5_3 f) (fun f14 => sq (x4 + 1) (fun x4_16 => lp_X0_findBestExchange_14 N x1 x2 x3 n x4_16 f14)))
theorem lp_X0_findBestExchange_14_s (N : Nat) (x1 : Int32) (x2 : Int32) (x3 : Int32) (n : Nat) (x4 : Int32) (f : mM) : lp_X0_findBestExchange_14 N x1 x2 x3 (n + 1) x4 f = (if (f 3 1) ≤ x4 then some f else sq (x4 + 1) (fun x5_3 => bi (lp_X0_findBestExchange_32 N x1 x2 x3 x4 N x5_3 f) (fun f14 => sq (x4 + 1) (fun x4_16 => lp_X0_findBestExchange_14 N x1 x2 x3 n x4_16 f14)))) := rfl
set_option maxHeartbeats 4000000 in
set_option maxRecDepth 100000 in
theorem lp_X0_findBestExchange_14_w (C0 : cX p s m args meth c cX0_findBestExchange 6 none RX0 wsX0_findBestExchange D cy (xP ad sk sv)) (hj : jP ad) (hR : 3 ≤ R.frames ∧ 71 ≤ R.locals) (N : Nat) (x1 : Int32) (x2 : Int32) (x3 : Int32) (t : Int64) (fR : mM) (kx116 : ∀ (H : Heap) (locs : List Loc) (ls : Array Slot), va_P D vwCl (wP ad cy fR t) H → va_S (aP ad) s.heap H locs → lv_has ls 6 [] → W p l e R s m args below meth c H locs 0 0 Q (F0 m 116 ls [])) : ∀ (n : Nat) (x4 : Int32) (f : mM), lp_X0_findBestExchange_14 N x1 x2 x3 n x4 f = some fR → ∀ (H : Heap) (locs : List Loc) (ls : Array Slot), va_P D vwCl (wP ad cy f t) H → va_S (aP ad) s.heap H locs → lv_has ls 6 [(0, .ref (ad 40)), (1, .int x1), (2, .int x2), (3, .int x3), (4, .int x4)] → W p l e R s m args below meth c H locs 0 0 Q (F0 m 14 ls []) := by
  obtain ⟨hx, hb, hr, hml, hown, hts, hlocks, hK, hX0⟩ := id C0
  have lk24 := hts (.fieldLink RX0 24 "PlankNine$Cuts" "marsh" "LPlankNine$Marsh;") (List.mem_of_getElem? (i := 3) rfl)
  have hiX0 : ∀ w ∈ u_ws RX0 TX0 6, w ∈ wsX0_findBestExchange := fun w h => List.mem_cons_of_mem _ (List.mem_append_left _ (List.mem_append_left _ (List.mem_append_right _ h)))
  have ln45 := nlF_8 (args := args) hX0
  have hiX2 : ∀ w ∈ u_ws RX2 TX2 12, w ∈ wsX0_findBestExchange := fun w h => List.mem_cons_of_mem _ (List.mem_append_left _ (List.mem_append_right _ h))
  intro n
  induction n with
  | zero =>
    intro x4 f hf
    exact no_none hf
  | succ n ih =>
    intro x4 f hf H locs ls hP hS hl
    have hf := (lp_X0_findBestExchange_14_s N x1 x2 x3 n x4 f).symm.trans hf
    refine lv_iload hx hb dX0_findBestExchange_14 (lv_at hl 4 rfl) ?_
    refine lv_aload_n hx hb dX0_findBestExchange_16 rfl (lv_at hl 0 rfl) ?_
    refine va_get (D := D) (ci := 0) (v := .ref (ad 3)) (C := RX0) (T := TX0) (N := 6) hx hb hts hiX0 hown hK hP 40 rfl rfl 0 (by decide) lk24 (fun _ h9 => h9) rfl dX0_findBestExchange_17 ?_
    refine va_getN (D := D) (ci := 2) (v := .int (f 3 1)) (C := RX2) (T := TX2) (N := 12) hx hb hts hiX2 hown hK hP 3 rfl rfl 1 (by decide) ln45 (fun _ h9 => h9) rfl dX0_findBestExchange_20 ?_
    refine lv_icmp_ge (tgt := 116) hx hb dX0_findBestExchange_23 (by decide) (fun c23 => ?_) (fun c23 => ?_)
    · have hf := itT hf c23
      obtain rfl := Option.some.inj hf
      exact kx116 H locs ls hP hS (lv_sub hl [] rfl)
    · have hf := itF hf c23
      refine lv_iload hx hb dX0_findBestExchange_26 (lv_at hl 4 rfl) ?_
      refine lv_iconst (v := 1) hx hb dX0_findBestExchange_28 (by decide) ?_
      refine lv_iadd hx hb dX0_findBestExchange_29 ?_
      obtain ⟨x5_3, ex5_3, hf⟩ := sq_out hf
      refine lv_nmi ex5_3 ?_
      refine lv_istore (lv' := [(5, .int x5_3), (0, .ref (ad 40)), (1, .int x1), (2, .int x2), (3, .int x3), (4, .int x4)]) hx hb dX0_findBestExchange_30 hl (by decide) rfl (fun ls hl => ?_)
      obtain ⟨f14, hlp15, hf⟩ := bi_out hf
      refine lp_X0_findBestExchange_32_w C0 hj hR N x1 x2 x3 x4 t f14 ?_ N x5_3 f hlp15 H locs ls hP hS (lv_sub hl [1, 2, 3, 4, 5, 0] rfl)
      intro H locs ls hP hS hl
      obtain ⟨x4_16, ex4_16, hf⟩ := sq_out hf
      refine lv_iinc (v := x4_16) (lv' := [(4, .int x4_16), (0, .ref (ad 40)), (1, .int x1), (2, .int x2), (3, .int x3)]) hx hb dX0_findBestExchange_110 hl (k := 4) rfl (by rw [ex4_16]; rfl) (by decide) rfl (fun ls hl => ?_)
      refine lv_goto (tgt := 14) hx hb dX0_findBestExchange_113 (by decide) ?_
      exact ih x4_16 f14 hf H locs ls hP hS (lv_sub hl [1, 2, 3, 4, 0] rfl)
def q_X0_findBestExchange (N : Nat) (x1 : Int32) (x2 : Int32) (x3 : Int32) (f : mM) : Option (mM) := sq (st2 f 40 4 (-1)) (fun f1 => sq (st2 f1 40 5 (-9)) (fun f2 => bi (lp_X0_findBestExchange_14 N x1 x2 x3 N 0 f2) (fun f17 => some f17)))
set_option maxHeartbeats 4000000 in
set_option maxRecDepth 100000 in
theorem b_X0_findBestExchange (C0 : cX p s m args meth c cX0_findBestExchange 6 none RX0 wsX0_findBestExchange D cy (xP ad sk sv)) (hj : jP ad) (hR : 3 ≤ R.frames ∧ 71 ≤ R.locals) (N : Nat) (x1 : Int32) (x2 : Int32) (x3 : Int32) (f : mM) (t : Int64) (fR : mM) (hf : q_X0_findBestExchange N x1 x2 x3 f = some fR) (kr : ∀ (H : Heap) (locs : List Loc) (ls : Array Slot) (pc : Nat), decode cX0_findBestExchange pc = .ok (.return_, 1) → va_P D vwCl (wP ad cy fR t) H → va_S (aP ad) s.heap H locs → W p l e R s m args below meth c H locs 0 0 Q (F0 m pc ls [])) (H : Heap) (locs : List Loc) (ls : Array Slot) (hP : va_P D vwCl (wP ad cy f t) H) (hS : va_S (aP ad) s.heap H locs) (hl : lv_has ls 6 [(0, .ref (ad 40)), (1, .int x1), (2, .int x2), (3, .int x3)]) : W p l e R s m args below meth c H locs 0 0 Q (F0 m 0 ls []) := by
  obtain ⟨hx, hb, hr, hml, hown, hts, hlocks, hK, hX0⟩ := id C0
  have lk18 := hts (.fieldLink RX0 18 "PlankNine$Cuts" "bestSum" "I") (List.mem_of_getElem? (i := 1) rfl)
  have hiX0 : ∀ w ∈ u_ws RX0 TX0 6, w ∈ wsX0_findBestExchange := fun w h => List.mem_cons_of_mem _ (List.mem_append_left _ (List.mem_append_left _ (List.mem_append_right _ h)))
  have lk21 := hts (.fieldLink RX0 21 "PlankNine$Cuts" "bestPair" "I") (List.mem_of_getElem? (i := 2) rfl)
  unfold q_X0_findBestExchange at hf
  refine lv_aload_n hx hb dX0_findBestExchange_0 rfl (lv_at hl 0 rfl) ?_
  refine lv_iconst (v := (-1)) hx hb dX0_findBestExchange_1 (by decide) ?_
  obtain ⟨f1, ef1, hf⟩ := sq_out hf
  refine va_put (D := D) (ci := 0) (v := .int (-1)) (ty := .int) (C := RX0) (T := TX0) (N := 6) hx hb hts hiX0 tyX0 tyX0_ok nmX0 hown hK hP (dP hj f t) hS 40 rfl rfl 4 (by decide) lk18 (fun _ h9 => h9) rfl (by decide +kernel) rfl rfl (Nat.le_of_ble_eq_true rfl) dX0_findBestExchange_2 (fun H locs hP _ hS => ?_)
  have hP := sP_40_4 ef1 hP
  refine lv_aload_n hx hb dX0_findBestExchange_5 rfl (lv_at hl 0 rfl) ?_
  refine lv_bipush (v := (-9)) hx hb dX0_findBestExchange_6 (by decide) ?_
  obtain ⟨f2, ef2, hf⟩ := sq_out hf
  refine va_put (D := D) (ci := 0) (v := .int (-9)) (ty := .int) (C := RX0) (T := TX0) (N := 6) hx hb hts hiX0 tyX0 tyX0_ok nmX0 hown hK hP (dP hj f1 t) hS 40 rfl rfl 5 (by decide) lk21 (fun _ h9 => h9) rfl (by decide +kernel) rfl rfl (Nat.le_of_ble_eq_true rfl) dX0_findBestExchange_8 (fun H locs hP _ hS => ?_)
  have hP := sP_40_5 ef2 hP
  refine lv_iconst (v := 0) hx hb dX0_findBestExchange_11 (by decide) ?_
  refine lv_istore (lv' := [(4, .int 0), (0, .ref (ad 40)), (1, .int x1), (2, .int x2), (3, .int x3)]) hx hb dX0_findBestExchange_12 hl (by decide) rfl (fun ls hl => ?_)
  obtain ⟨f17, hlp18, hf⟩ := bi_out hf
  refine lp_X0_findBestExchange_14_w C0 hj hR N x1 x2 x3 t f17 ?_ N 0 f2 hlp18 H locs ls hP hS (lv_sub hl [1, 2, 3, 4, 0] rfl)
  intro H locs ls hP hS hl
  obtain rfl := Option.some.inj hf
  exact kr H locs ls 116 dX0_findBestExchange_116 hP hS
set_option maxHeartbeats 4000000 in
set_option maxRecDepth 100000 in
theorem c_X0_findBestExchange (hj : jP ad) (l : Launch) (N : Nat) (x1 : Int32) (x2 : Int32) (x3 : Int32) (f : mM) (t : Int64) (fR : mM) (hf : q_X0_findBestExchange N x1 x2 x3 f = some fR) : Met l yX0_findBestExchange wsX0_findBestExchange ({ frames := 3, cells := 0, slots := 0, locals := 71 }) (va_Pc ([.ref (ad 40), .int x1, .int x2, .int x3]) (pre D cy (wP ad cy) (xP ad sk sv) f t)) (va_Qv (fun (u : mM × Int64) => u = (fR, t)) (atW D (wP ad cy)) (aP ad)) 0 0 (aP ad) := by
  refine Met.ofW (cc := cX0_findBestExchange) (maxL := 6) (ret := none) (by decide) rfl ?_
  intro p e s m args below meth c s₁ B hml hv
  obtain ⟨rfl, hP, hK, hX0⟩ := hv
  have hl := lv_entry ([.ref (ad 40), .int x1, .int x2, .int x3]) (n := 6) (Nat.le_of_ble_eq_true rfl)
  rw [lg_entry_eq]
  generalize (lg_sl ([.ref (ad 40), .int x1, .int x2, .int x3]) ++ List.replicate (6 - (lg_sl ([.ref (ad 40), .int x1, .int x2, .int x3])).length) Slot.unset).toArray = ls at hl ⊢
  have hlocks := B.notSynchronized
  exact b_X0_findBestExchange ⟨B.exec, B.bytes, B.returns, hml, findClass_of_methodNamed B.named, atoms_spec (ws := wsX0_findBestExchange) B.pre, hlocks, hK, hX0⟩ hj ⟨Nat.le_refl _, Nat.le_refl _⟩ N x1 x2 x3 f t fR hf (fun H locs ls pc hd hP hS => W.vret B.exec B.bytes B.returns (fun t2 ht hW => ⟨⟨(fR, t), rfl, rfl, by show va_P D vwCl _ t2.heap; rw [ht]; exact hP⟩, hS.F ht⟩) hS.2.2 hd) s.heap [] ls hP va_S.rf hl
