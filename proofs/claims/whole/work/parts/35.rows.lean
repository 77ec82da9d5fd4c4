variable {p : Program} {l : Launch} {e : Env} {R : Room} {s : State} {m : MethodId} {args : Array Value} {below : List Frame} {meth : Method} {c : Code} {Q : State → Prop} {D : va_G} {cy : Nat → ClassId} {ad sk sv : Nat → Nat}
def q_X5_beginErrand (rec : Int32 → Int32 → Int32 → Int32 → Int32 → mM → Option (mM)) (N : Nat) (x1 : Int32) (x2 : Int32) (f : mM) : Option (mM) := if x1 < (f 3 3) then gi x1 3 (gi x1 3 (bi (rec x1 (f 10 (Int32.toNatClampNeg x1)) 0 (1 <<< ((f 10 (Int32.toNatClampNeg x1)) &&& 31)) x2 f) (fun f3 => some f3))) else sq (st2 f 39 2 (if (f 39 2) < x2 then x2 else (f 39 2))) (fun f5 => some f5)
set_option maxHeartbeats 4000000 in
set_option maxRecDepth 100000 in
theorem b_X5_beginErrand (C0 : cX p s m args meth c cX5_beginErrand 3 none RX5 wsX5_beginErrand D cy (xP ad sk sv)) (hj : jP ad) {rec : Int32 → Int32 → Int32 → Int32 → Int32 → mM → Option (mM)} {F Lc : Nat} (hrec : ∀ (x1 : Int32) (x2 : Int32) (x3 : Int32) (x4 : Int32) (x5 : Int32) (f : mM) (t : Int64) (fR : mM), rec x1 x2 x3 x4 x5 f = some fR → Met l yX5_goOn wsX5_goOn ({ frames := F, cells := 0, slots := 0, locals := Lc }) (va_Pc ([.ref (ad 39), .int x1, .int x2, .int x3, .int x4, .int x5]) (pre D cy (wP ad cy) (xP ad sk sv) f t)) (va_Qv (fun (u : mM × Int64) => u = (fR, t)) (atW D (wP ad cy)) (aP ad)) 0 0 (aP ad)) (hR : F + 1 ≤ R.frames ∧ Lc + 28 ≤ R.locals) (N : Nat) (x1 : Int32) (x2 : Int32) (f : mM) (t : Int64) (fR : mM) (hf : q_X5_beginErrand rec N x1 x2 f = some fR) (kr : ∀ (H : Heap) (locs : List Loc) (ls : Array Slot) (pc : Nat), decode cX5_beginErrand pc = .ok (.return_, 1) → va_P D vwCl (wP ad cy fR t) H → va_S (aP ad) s.heap H locs → W p l e R s m args below meth c H locs 0 0 Q (F0 m pc ls [])) (H : Heap) (locs : List Loc) (ls : Array Slot) (hP : va_P D vwCl (wP ad cy f t) H) (hS : va_S (aP ad) s.heap H locs) (hl : lv_has ls 3 [(0, .ref (ad 39)), (1, .int x1), (2, .int x2)]) : W p l e R s m args below meth c H locs 0 0 Q (F0 m 0 ls []) := by
  obtain ⟨hx, hb, hr, hml, hown, hts, hlocks, hK, hX0⟩ := id C0
  have lk15 := hts (.fieldLink RX5 15 "PlankNine$Rows" "marsh" "LPlankNine$Marsh;") (List.mem_of_getElem? (i := 1) rfl)
  have hiX5 : ∀ w ∈ u_ws RX5 TX5 3, w ∈ wsX5_beginErrand := fun w h => List.mem_cons_of_mem _ (List.mem_append_left _ (List.mem_append_left _ (List.mem_append_right _ h)))
  have ln33 := nlF_16 (args := args) hX0
  have hiX2 : ∀ w ∈ u_ws RX2 TX2 12, w ∈ wsX5_beginErrand := fun w h => List.mem_cons_of_mem _ (List.mem_append_left _ (List.mem_append_right _ h))
  have ln44 := nlF_33 (args := args) hX0
  have lk9 := hts (.fieldLink RX5 9 "PlankNine$Rows" "most" "I") (List.mem_of_getElem? (i := 2) rfl)
  unfold q_X5_beginErrand at hf
  refine lv_iload_n hx hb dX5_beginErrand_0 rfl (lv_at hl 1 rfl) ?_
  refine lv_aload_n hx hb dX5_beginErrand_1 rfl (lv_at hl 0 rfl) ?_
  refine va_get (D := D) (ci := 5) (v := .ref (ad 3)) (C := RX5) (T := TX5) (N := 3) hx hb hts hiX5 hown hK hP 39 rfl rfl 0 (by decide) lk15 (fun _ h9 => h9) rfl dX5_beginErrand_2 ?_
  refine va_getN (D := D) (ci := 2) (v := .int (f 3 3)) (C := RX2) (T := TX2) (N := 12) hx hb hts hiX2 hown hK hP 3 rfl rfl 3 (by decide) ln33 (fun _ h9 => h9) rfl dX5_beginErrand_5 ?_
  refine lv_icmp_lt (tgt := 24) hx hb dX5_beginErrand_8 (by decide) (fun c8 => ?_) (fun c8 => ?_)
  · have hf := itT hf c8
    refine lv_aload_n hx hb dX5_beginErrand_24 rfl (lv_at hl 0 rfl) ?_
    refine lv_iload_n hx hb dX5_beginErrand_25 rfl (lv_at hl 1 rfl) ?_
    refine lv_aload_n hx hb dX5_beginErrand_26 rfl (lv_at hl 0 rfl) ?_
    refine va_get (D := D) (ci := 5) (v := .ref (ad 3)) (C := RX5) (T := TX5) (N := 3) hx hb hts hiX5 hown hK hP 39 rfl rfl 0 (by decide) lk15 (fun _ h9 => h9) rfl dX5_beginErrand_27 ?_
    refine va_getN (D := D) (ci := 2) (v := .ref (ad 10)) (C := RX2) (T := TX2) (N := 12) hx hb hts hiX2 hown hK hP 3 rfl rfl 10 (by decide) ln44 (fun _ h9 => h9) rfl dX5_beginErrand_30 ?_
    refine lv_iload_n hx hb dX5_beginErrand_33 rfl (lv_at hl 1 rfl) ?_
    obtain ⟨hin1, hf⟩ := gi_out hf
    refine va_iald hx hb hK hP 10 1 rfl rfl hin1 dX5_beginErrand_34 ?_
    refine lv_iconst (v := 0) hx hb dX5_beginErrand_35 (by decide) ?_
    refine lv_iconst (v := 1) hx hb dX5_beginErrand_36 (by decide) ?_
    refine lv_aload_n hx hb dX5_beginErrand_37 rfl (lv_at hl 0 rfl) ?_
    refine va_get (D := D) (ci := 5) (v := .ref (ad 3)) (C := RX5) (T := TX5) (N := 3) hx hb hts hiX5 hown hK hP 39 rfl rfl 0 (by decide) lk15 (fun _ h9 => h9) rfl dX5_beginErrand_38 ?_
    refine va_getN (D := D) (ci := 2) (v := .ref (ad 10)) (C := RX2) (T := TX2) (N := 12) hx hb hts hiX2 hown hK hP 3 rfl rfl 10 (by decide) ln44 (fun _ h9 => h9) rfl dX5_beginErrand_41 ?_
    refine lv_iload_n hx hb dX5_beginErrand_44 rfl (lv_at hl 1 rfl) ?_
    obtain ⟨hin2, hf⟩ := gi_out hf
    refine va_iald hx hb hK hP 10 1 rfl rfl hin2 dX5_beginErrand_45 ?_
    refine lv_ishl hx hb dX5_beginErrand_46 ?_
    refine lv_iload_n hx hb dX5_beginErrand_47 rfl (lv_at hl 2 rfl) ?_
    obtain ⟨f3, hq4, hf⟩ := bi_out hf
    refine cw_vv (As := [.int x1, .int (f 10 (Int32.toNatClampNeg x1)), .int 0, .int (1 <<< ((f 10 (Int32.toNatClampNeg x1)) &&& 31)), .int x2]) (rest := []) ⟨hx, hb, hml, hown, hts⟩ xP_S hK hX0 hS hP (hrec x1 (f 10 (Int32.toNatClampNeg x1)) 0 (1 <<< ((f 10 (Int32.toNatClampNeg x1)) &&& 31)) x2 f t f3 hq4) (cwV 5 hts gX5_beginErrand_X5_goOn rfl rfl rfl (by decide +kernel) ⟨Nat.le_trans (show F + 1 ≤ F + 1 by omega) hR.1, Nat.le_trans (show 8 + (9 + 11) + Lc ≤ Lc + 28 by omega) hR.2⟩) (va_recv hK hP (ci := 5) (q0 := 39) rfl rfl) rfl hl.1 rfl (Nat.le_of_ble_eq_true rfl) ⟨Nat.zero_le _, Nat.zero_le _⟩ dX5_beginErrand_48 (fun H locs hP hS => ?_)
    obtain rfl := Option.some.inj hf
    exact kr H locs ls 51 dX5_beginErrand_51 hP hS
  · have hf := itF hf c8
    refine lv_aload_n hx hb dX5_beginErrand_11 rfl (lv_at hl 0 rfl) ?_
    refine lv_aload_n hx hb dX5_beginErrand_12 rfl (lv_at hl 0 rfl) ?_
    refine va_get (D := D) (ci := 5) (v := .int (f 39 2)) (C := RX5) (T := TX5) (N := 3) hx hb hts hiX5 hown hK hP 39 rfl rfl 2 (by decide) lk9 (fun _ h9 => h9) rfl dX5_beginErrand_13 ?_
    refine lv_iload_n hx hb dX5_beginErrand_16 rfl (lv_at hl 2 rfl) ?_
    refine va_mmax hx hb (by rw [hml]; exact hl.1.symm) hown (hts (.methodLink RX5 38 Lib.Math.max.name) (by decide +kernel)) (hts (.static Lib.Math.max.name) (by decide +kernel)) (hts (.initialized "java/lang/Math") (by decide +kernel)) (hts (.code Lib.Math.max.name Lib.Math.max.code 2 (some .int)) (by decide +kernel)) (Nat.le_trans (show 1 ≤ F + 1 by omega) hR.1) (Nat.le_trans (show 14 ≤ Lc + 28 by omega) hR.2) (Nat.zero_le _) (Nat.zero_le _) dX5_beginErrand_17 ?_
    obtain ⟨f5, ef5, hf⟩ := sq_out hf
    refine va_put (D := D) (ci := 5) (v := .int (if (f 39 2) < x2 then x2 else (f 39 2))) (ty := .int) (C := RX5) (T := TX5) (N := 3) hx hb hts hiX5 tyX5 tyX5_ok nmX5 hown hK hP (dP hj f t) hS 39 rfl rfl 2 (by decide) lk9 (fun _ h9 => h9) rfl (by decide +kernel) rfl rfl (Nat.le_of_ble_eq_true rfl) dX5_beginErrand_20 (fun H locs hP _ hS => ?_)
    have hP := sP_39_2 ef5 hP
    obtain rfl := Option.some.inj hf
    exact kr H locs ls 23 dX5_beginErrand_23 hP hS
set_option maxHeartbeats 4000000 in
set_option maxRecDepth 100000 in
theorem c_X5_beginErrand (hj : jP ad) (l : Launch) {rec : Int32 → Int32 → Int32 → Int32 → Int32 → mM → Option (mM)} {F Lc : Nat} (hrec : ∀ (x1 : Int32) (x2 : Int32) (x3 : Int32) (x4 : Int32) (x5 : Int32) (f : mM) (t : Int64) (fR : mM), rec x1 x2 x3 x4 x5 f = some fR → Met l yX5_goOn wsX5_goOn ({ frames := F, cells := 0, slots := 0, locals := Lc }) (va_Pc ([.ref (ad 39), .int x1, .int x2, .int x3, .int x4, .int x5]) (pre D cy (wP ad cy) (xP ad sk sv) f t)) (va_Qv (fun (u : mM × Int64) => u = (fR, t)) (atW D (wP ad cy)) (aP ad)) 0 0 (aP ad)) (N : Nat) (x1 : Int32) (x2 : Int32) (f : mM) (t : Int64) (fR : mM) (hf : q_X5_beginErrand rec N x1 x2 f = some fR) : Met l yX5_beginErrand wsX5_beginErrand ({ frames := F + 1, cells := 0, slots := 0, locals := Lc + 28 }) (va_Pc ([.ref (ad 39), .int x1, .int x2]) (pre D cy (wP ad cy) (xP ad sk sv) f t)) (va_Qv (fun (u : mM × Int64) => u = (fR, t)) (atW D (wP ad cy)) (aP ad)) 0 0 (aP ad) := by
  refine Met.ofW (cc := cX5_beginErrand) (maxL := 3) (ret := none) (by decide) rfl ?_
  intro p e s m args below meth c s₁ B hml hv
  obtain ⟨rfl, hP, hK, hX0⟩ := hv
  have hl := lv_entry ([.ref (ad 39), .int x1, .int x2]) (n := 3) (Nat.le_of_ble_eq_true rfl)
  rw [lg_entry_eq]
  generalize (lg_sl ([.ref (ad 39), .int x1, .int x2]) ++ List.replicate (3 - (lg_sl ([.ref (ad 39), .int x1, .int x2])).length) Slot.unset).toArray = ls at hl ⊢
  have hlocks := B.notSynchronized
  exact b_X5_beginErrand ⟨B.exec, B.bytes, B.returns, hml, findClass_of_methodNamed B.named, atoms_spec (ws := wsX5_beginErrand) B.pre, hlocks, hK, hX0⟩ hj hrec ⟨Nat.le_refl _, Nat.le_refl _⟩ N x1 x2 f t fR hf (fun H locs ls pc hd hP hS => W.vret B.exec B.bytes B.returns (fun t2 ht hW => ⟨⟨(fR, t), rfl, rfl, by show va_P D vwCl _ t2.heap; rw [ht]; exact hP⟩, hS.F ht⟩) hS.2.2 hd) s.heap [] ls hP va_S.rf hl
def lp_X5_goOn_61 (rec : Int32 → Int32 → Int32 → Int32 → Int32 → mM → Option (mM)) (N : Nat) (x1 : Int32) (x2 : Int32) (x3 : Int32) (x4 : Int32) (x5 : Int32) (x6 : Int32) : Nat → Int32 → mM → Option (mM)
  | 0, _, _ => none
  | n + 1, x7, f => if (f 3 1) ≤ x7 then some f else bi (q_X2_across x7 x2 x4 f) (fun y5 => if y5 = (-1) then sq (x7 + 1) (fun x7_7 => lp_X5_goOn_61 rec N x1 x2 x3 x4 x5 x6 n x7_7 f) else bi (q_X3_canTake x7 x6 f) (fun y8 => if y8 = 0 then sq (x7 + 1) (fun x7_19 => lp_X5_goOn_61 rec N x1 x2 x3 x4 x5 x6 n x7_19 f) else gi x7 9 (gi x7 9 (sq (st2 f 24 (Int32.toNatClampNeg x7) ((f 24 (Int32.toNatClampNeg x7)) - x6)) (fun f12 => bi (rec x1 y5 (x3 + 1) (x4 ||| (1 <<< (y5 &&& 31))) (x5 - x6) f12) (fun f13 => gi x7 9 (gi x7 9 (sq (st2 f13 24 (Int32.toNatClampNeg x7) ((f13 24 (Int32.toNatClampNeg x7)) + x6)) (fun f17 => sq (x7 + 1) (fun x7_18 => lp_X5_goOn_61 rec N x1 x2 x3 x4 x5 x6 n x7_18 f17))))))))))
theorem lp_X5_goOn_61_s (rec : Int32 → Int32 → Int32 → Int32 → Int32 → mM → Option (mM)) (N : Nat) (x1 : Int32) (x2 : Int32) (x3 : Int32) (x4 : Int32) (x5 : Int32) (x6 : Int32) (n : Nat) (x7 : Int32) (f : mM) : lp_X5_goOn_61 rec N x1 x2 x3 x4 x5 x6 (n + 1) x7 f = (if (f 3 1) ≤ x7 then some f else bi (q_X2_across x7 x2 x4 f) (fun y5 => if y5 = (-1) then sq (x7 + 1) (fun x7_7 => lp_X5_goOn_61 rec N x1 x2 x3 x4 x5 x6 n x7_7 f) else bi (q_X3_canTake x7 x6 f) (fun y8 => if y8 = 0 then sq (x7 + 1) (fun x7_19 => lp_X5_goOn_61 rec N x1 x2 x3 x4 x5 x6 n x7_19 f) else gi x7 9 (gi x7 9 (sq (st2 f 24 (Int32.toNatClampNeg x7) ((f 24 (Int32.toNatClampNeg x7)) - x6)) (fun f12 => bi (rec x1 y5 (x3 + 1) (x4 ||| (1 <<< (y5 &&& 31))) (x5 - x6) f12) (fun f13 => gi x7 9 (gi x7 9 (sq (st2 f13 24 (Int32.toNatClampNeg x7) ((f13 24 (Int32.toNatClampNeg x7)) + x6)) (fun f17 => sq (x7 + 1) (fun x7_18 => lp_X5_goOn_61 rec N x1 x2 x3 x4 x5 x6 n x7_18 f17))))))))))) := rfl
set_option maxHeartbeats 4000000 in
set_option maxRecDepth 100000 in
theorem lp_X5_goOn_61_w (C0 : cX p s m args meth c cX5_goOn 9 none RX5 wsX5_goOn D cy (xP ad sk sv)) (hj : jP ad) {rec : Int32 → Int32 → Int32 → Int32 → Int32 → mM → Option (mM)} {F Lc : Nat} (hrec : ∀ (x1 : Int32) (x2 : Int32) (x3 : Int32) (x4 : Int32) (x5 : Int32) (f : mM) (t : Int64) (fR : mM), rec x1 x2 x3 x4 x5 f = some fR → Met l yX5_goOn wsX5_goOn ({ frames := F, cells := 0, slots := 0, locals := Lc }) (va_Pc ([.ref (ad 39), .int x1, .int x2, .int x3, .int x4, .int x5]) (pre D cy (wP ad cy) (xP ad sk sv) f t)) (va_Qv (fun (u : mM × Int64) => u = (fR, t)) (atW D (wP ad cy)) (aP ad)) 0 0 (aP ad)) (hR : F + 2 ≤ R.frames ∧ Lc + 50 ≤ R.locals) (N : Nat) (x1 : Int32) (x2 : Int32) (x3 : Int32) (x4 : Int32) (x5 : Int32) (x6 : Int32) (t : Int64) (fR : mM) (kx168 : ∀ (H : Heap) (locs : List Loc) (ls : Array Slot), va_P D vwCl (wP ad cy fR t) H → va_S (aP ad) s.heap H locs → lv_has ls 9 [] → W p l e R s m args below meth c H locs 0 0 Q (F0 m 168 ls [])) : ∀ (n : Nat) (x7 : Int32) (f : mM), lp_X5_goOn_61 rec N x1 x2 x3 x4 x5 x6 n x7 f = some fR → ∀ (H : Heap) (locs : List Loc) (ls : Array Slot), va_P D vwCl (wP ad cy f t) H → va_S (aP ad) s.heap H locs → lv_has ls 9 [(0, .ref (ad 39)), (1, .int x1), (2, .int x2), (3, .int x3), (4, .int x4), (5, .int x5), (6, .int x6), (7, .int x7)] → W p l e R s m args below meth c H locs 0 0 Q (F0 m 61 ls []) := by
  obtain ⟨hx, hb, hr, hml, hown, hts, hlocks, hK, hX0⟩ := id C0
  have lk15 := hts (.fieldLink RX5 15 "PlankNine$Rows" "marsh" "LPlankNine$Marsh;") (List.mem_of_getElem? (i := 2) rfl)
  have hiX5 : ∀ w ∈ u_ws RX5 TX5 3, w ∈ wsX5_goOn := fun w h => List.mem_cons_of_mem _ (List.mem_append_left _ (List.mem_append_left _ (List.mem_append_right _ h)))
  have ln61 := nlF_11 (args := args) hX0
  have hiX2 : ∀ w ∈ u_ws RX2 TX2 12, w ∈ wsX5_goOn := fun w h => List.mem_cons_of_mem _ (List.mem_append_left _ (List.mem_append_right _ h))
  have lk19 := hts (.fieldLink RX5 19 "PlankNine$Rows" "now" "LPlankNine$Now;") (List.mem_of_getElem? (i := 3) rfl)
  have ln72 := nlF_42 (args := args) hX0
  have hiX3 : ∀ w ∈ u_ws RX3 TX3 4, w ∈ wsX5_goOn := fun w h => List.mem_cons_of_mem _ (List.mem_append_right _ h)
  intro n
  induction n with
  | zero =>
    intro x7 f hf
    exact no_none hf
  | succ n ih =>
    intro x7 f hf H locs ls hP hS hl
    have hf := (lp_X5_goOn_61_s rec N x1 x2 x3 x4 x5 x6 n x7 f).symm.trans hf
    refine lv_iload hx hb dX5_goOn_61 (lv_at hl 7 rfl) ?_
    refine lv_aload_n hx hb dX5_goOn_63 rfl (lv_at hl 0 rfl) ?_
    refine va_get (D := D) (ci := 5) (v := .ref (ad 3)) (C := RX5) (T := TX5) (N := 3) hx hb hts hiX5 hown hK hP 39 rfl rfl 0 (by decide) lk15 (fun _ h9 => h9) rfl dX5_goOn_64 ?_
    refine va_getN (D := D) (ci := 2) (v := .int (f 3 1)) (C := RX2) (T := TX2) (N := 12) hx hb hts hiX2 hown hK hP 3 rfl rfl 1 (by decide) ln61 (fun _ h9 => h9) rfl dX5_goOn_67 ?_
    refine lv_icmp_ge (tgt := 168) hx hb dX5_goOn_70 (by decide) (fun c70 => ?_) (fun c70 => ?_)
    · have hf := itT hf c70
      obtain rfl := Option.some.inj hf
      exact kx168 H locs ls hP hS (lv_sub hl [] rfl)
    · have hf := itF hf c70
      refine lv_aload_n hx hb dX5_goOn_73 rfl (lv_at hl 0 rfl) ?_
      refine va_get (D := D) (ci := 5) (v := .ref (ad 3)) (C := RX5) (T := TX5) (N := 3) hx hb hts hiX5 hown hK hP 39 rfl rfl 0 (by decide) lk15 (fun _ h9 => h9) rfl dX5_goOn_74 ?_
      refine lv_iload hx hb dX5_goOn_77 (lv_at hl 7 rfl) ?_
      refine lv_iload_n hx hb dX5_goOn_79 rfl (lv_at hl 2 rfl) ?_
      refine lv_iload hx hb dX5_goOn_80 (lv_at hl 4 rfl) ?_
      obtain ⟨y5, hq6, hf⟩ := bi_out hf
      refine cw_vi (As := [.int x7, .int x2, .int x4]) (rest := []) ⟨hx, hb, hml, hown, hts⟩ xP_S hK hX0 hS hP (c_X2_across hj l x7 x2 x4 f t y5 hq6) (cwV 3 hts gX5_goOn_X2_across rfl rfl rfl (by decide +kernel) ⟨Nat.le_trans (show 2 ≤ F + 2 by omega) hR.1, Nat.le_trans (show 46 ≤ Lc + 50 by omega) hR.2⟩) (va_recv hK hP (ci := 2) (q0 := 3) rfl rfl) rfl hl.1 rfl (Nat.le_of_ble_eq_true rfl) ⟨Nat.zero_le _, Nat.zero_le _⟩ dX5_goOn_82 (fun H locs hP hS => ?_)
      refine lv_istore (lv' := [(8, .int y5), (0, .ref (ad 39)), (1, .int x1), (2, .int x2), (3, .int x3), (4, .int x4), (5, .int x5), (6, .int x6), (7, .int x7)]) hx hb dX5_goOn_85 hl (by decide) rfl (fun ls hl => ?_)
      refine lv_iload hx hb dX5_goOn_87 (lv_at hl 0 rfl) ?_
      refine lv_iconst (v := (-1)) hx hb dX5_goOn_89 (by decide) ?_
      refine lv_icmp_eq (tgt := 162) hx hb dX5_goOn_90 (by decide) (fun c90 => ?_) (fun c90 => ?_)
      · have hf := itT hf c90
        obtain ⟨x7_7, ex7_7, hf⟩ := sq_out hf
        refine lv_iinc (v := x7_7) (lv' := [(7, .int x7_7), (8, .int y5), (0, .ref (ad 39)), (1, .int x1), (2, .int x2), (3, .int x3), (4, .int x4), (5, .int x5), (6, .int x6)]) hx hb dX5_goOn_162 hl (k := 8) rfl (by rw [ex7_7]; rfl) (by decide) rfl (fun ls hl => ?_)
        refine lv_goto (tgt := 61) hx hb dX5_goOn_165 (by decide) ?_
        exact ih x7_7 f hf H locs ls hP hS (lv_sub hl [2, 3, 4, 5, 6, 7, 8, 0] rfl)
      · have hf := itF hf c90
        refine lv_aload_n hx hb dX5_goOn_93 rfl (lv_at hl 1 rfl) ?_
        refine va_get (D := D) (ci := 5) (v := .ref (ad 23)) (C := RX5) (T := TX5) (N := 3) hx hb hts hiX5 hown hK hP 39 rfl rfl 1 (by decide) lk19 (fun _ h9 => h9) rfl dX5_goOn_94 ?_
        refine lv_iload hx hb dX5_goOn_97 (lv_at hl 8 rfl) ?_
        refine lv_iload hx hb dX5_goOn_99 (lv_at hl 7 rfl) ?_
        obtain ⟨y8, hq9, hf⟩ := bi_out hf
        refine cw_vi (As := [.int x7, .int x6]) (rest := []) ⟨hx, hb, hml, hown, hts⟩ xP_S hK hX0 hS hP (c_X3_canTake hj l x7 x6 f t y8 hq9) (cwV 2 hts gX5_goOn_X3_canTake rfl rfl rfl (by decide +kernel) ⟨Nat.le_trans (show 1 ≤ F + 2 by omega) hR.1, Nat.le_trans (show 22 ≤ Lc + 50 by omega) hR.2⟩) (va_recv hK hP (ci := 3) (q0 := 23) rfl rfl) rfl hl.1 rfl (Nat.le_of_ble_eq_true rfl) ⟨Nat.zero_le _, Nat.zero_le _⟩ dX5_goOn_101 (fun H locs hP hS => ?_)
        refine lv_if_ne (tgt := 110) hx hb dX5_goOn_104 (by decide) (fun c104 => ?_) (fun c104 => ?_)
        · have hf := itF hf c104
          refine lv_aload_n hx hb dX5_goOn_110 rfl (lv_at hl 1 rfl) ?_
          refine va_get (D := D) (ci := 5) (v := .ref (ad 23)) (C := RX5) (T := TX5) (N := 3) hx hb hts hiX5 hown hK hP 39 rfl rfl 1 (by decide) lk19 (fun _ h9 => h9) rfl dX5_goOn_111 ?_
          refine va_getN (D := D) (ci := 3) (v := .ref (ad 24)) (C := RX3) (T := TX3) (N := 4) hx hb hts hiX3 hown hK hP 23 rfl rfl 0 (by decide) ln72 (fun _ h9 => h9) rfl dX5_goOn_114 ?_
          refine lv_iload hx hb dX5_goOn_117 (lv_at hl 8 rfl) ?_
          refine lv_dup2_11 hx hb dX5_goOn_119 rfl rfl ?_
          obtain ⟨hin10, hf⟩ := gi_out hf
          refine va_iald hx hb hK hP 24 1 rfl rfl hin10 dX5_goOn_120 ?_
          refine lv_iload hx hb dX5_goOn_121 (lv_at hl 7 rfl) ?_
          refine lv_isub hx hb dX5_goOn_123 ?_
          obtain ⟨hin11, hf⟩ := gi_out hf
          obtain ⟨f12, ef12, hf⟩ := sq_out hf
          refine va_iast hx hb hK hP (dP hj f t) hS 24 1 rfl rfl hin11 dX5_goOn_124 (fun H locs hP _ hS => ?_)
          have hP := sP_24 ef12 hP
          refine lv_aload_n hx hb dX5_goOn_125 rfl (lv_at hl 1 rfl) ?_
          refine lv_iload_n hx hb dX5_goOn_126 rfl (lv_at hl 2 rfl) ?_
          refine lv_iload hx hb dX5_goOn_127 (lv_at hl 0 rfl) ?_
          refine lv_iload_n hx hb dX5_goOn_129 rfl (lv_at hl 4 rfl) ?_
          refine lv_iconst (v := 1) hx hb dX5_goOn_130 (by decide) ?_
          refine lv_iadd hx hb dX5_goOn_131 ?_
          refine lv_iload hx hb dX5_goOn_132 (lv_at hl 5 rfl) ?_
          refine lv_iconst (v := 1) hx hb dX5_goOn_134 (by decide) ?_
          refine lv_iload hx hb dX5_goOn_135 (lv_at hl 0 rfl) ?_
          refine lv_ishl hx hb dX5_goOn_137 ?_
          refine lv_ior hx hb dX5_goOn_138 ?_
          refine lv_iload hx hb dX5_goOn_139 (lv_at hl 6 rfl) ?_
          refine lv_iload hx hb dX5_goOn_141 (lv_at hl 7 rfl) ?_
          refine lv_isub hx hb dX5_goOn_143 ?_
          obtain ⟨f13, hq14, hf⟩ := bi_out hf
          refine cw_vv (As := [.int x1, .int y5, .int (x3 + 1), .int (x4 ||| (1 <<< (y5 &&& 31))), .int (x5 - x6)]) (rest := []) ⟨hx, hb, hml, hown, hts⟩ xP_S hK hX0 hS hP (hrec x1 y5 (x3 + 1) (x4 ||| (1 <<< (y5 &&& 31))) (x5 - x6) f12 t f13 hq14) (cwV 5 hts gX5_goOn_X5_goOn rfl rfl rfl (by decide +kernel) ⟨Nat.le_trans (show F + 1 ≤ F + 2 by omega) hR.1, Nat.le_trans (show 8 + (9 + 11) + Lc ≤ Lc + 50 by omega) hR.2⟩) (va_recv hK hP (ci := 5) (q0 := 39) rfl rfl) rfl hl.1 rfl (Nat.le_of_ble_eq_true rfl) ⟨Nat.zero_le _, Nat.zero_le _⟩ dX5_goOn_144 (fun H locs hP hS => ?_)
          refine lv_aload_n hx hb dX5_goOn_147 rfl (lv_at hl 1 rfl) ?_
          refine va_get (D := D) (ci := 5) (v := .ref (ad 23)) (C := RX5) (T := TX5) (N := 3) hx hb hts hiX5 hown hK hP 39 rfl rfl 1 (by decide) lk19 (fun _ h9 => h9) rfl dX5_goOn_148 ?_
          refine va_getN (D := D) (ci := 3) (v := .ref (ad 24)) (C := RX3) (T := TX3) (N := 4) hx hb hts hiX3 hown hK hP 23 rfl rfl 0 (by decide) ln72 (fun _ h9 => h9) rfl dX5_goOn_151 ?_
          refine lv_iload hx hb dX5_goOn_154 (lv_at hl 8 rfl) ?_
          refine lv_dup2_11 hx hb dX5_goOn_156 rfl rfl ?_
          obtain ⟨hin15, hf⟩ := gi_out hf
          refine va_iald hx hb hK hP 24 1 rfl rfl hin15 dX5_goOn_157 ?_
          refine lv_iload hx hb dX5_goOn_158 (lv_at hl 7 rfl) ?_
          refine lv_iadd hx hb dX5_goOn_160 ?_
          obtain ⟨hin16, hf⟩ := gi_out hf
          obtain ⟨f17, ef17, hf⟩ := sq_out hf
          refine va_iast hx hb hK hP (dP hj f13 t) hS 24 1 rfl rfl hin16 dX5_goOn_161 (fun H locs hP _ hS => ?_)
          have hP := sP_24 ef17 hP
          obtain ⟨x7_18, ex7_18, hf⟩ := sq_out hf
          refine lv_iinc (v := x7_18) (lv' := [(7, .int x7_18), (8, .int y5), (0, .ref (ad 39)), (1, .int x1), (2, .int x2), (3, .int x3), (4, .int x4), (5, .int x5), (6, .int x6)]) hx hb dX5_goOn_162 hl (k := 8) rfl (by rw [ex7_18]; rfl) (by decide) rfl (fun ls hl => ?_)
          refine lv_goto (tgt := 61) hx hb dX5_goOn_165 (by decide) ?_
          exact ih x7_18 f17 hf H locs ls hP hS (lv_sub hl [2, 3, 4, 5, 6, 7, 8, 0] rfl)
        · have hf := itT hf c104
          refine lv_goto (tgt := 162) hx hb dX5_goOn_107 (by decide) ?_
          obtain ⟨x7_19, ex7_19, hf⟩ := sq_out hf
          refine lv_iinc (v := x7_19) (lv' := [(7, .int x7_19), (8, .int y5), (0, .ref (ad 39)), (1, .int x1), (2, .int x2), (3, .int x3), (4, .int x4), (5, .int x5), (6, .int x6)]) hx hb dX5_goOn_162 hl (k := 8) rfl (by rw [ex7_19]; rfl) (by decide) rfl (fun ls hl => ?_)
          refine lv_goto (tgt := 61) hx hb dX5_goOn_165 (by decide) ?_
          exact ih x7_19 f hf H locs ls hP hS (lv_sub hl [2, 3, 4, 5, 6, 7, 8, 0] rfl)
def q_X5_goOn (rec : Int32 → Int32 → Int32 → Int32 → Int32 → mM → Option (mM)) (N : Nat) (x1 : Int32) (x2 : Int32) (x3 : Int32) (x4 : Int32) (x5 : Int32) (f : mM) : Option (mM) := if (f 39 2) < x5 then gi x1 3 (if x2 = (f 11 (Int32.toNatClampNeg x1)) then bi (q_X5_beginErrand rec N (x1 + 1) x5 f) (fun f22 => some f22) else if x3 < 5 then gi x1 3 (bi (q_X2_takes (f 9 (Int32.toNatClampNeg x1)) x3 f) (fun y3 => bi (lp_X5_goOn_61 rec N x1 x2 x3 x4 x5 y3 N 0 f) (fun f20 => some f20))) else some f) else some f
set_option maxHeartbeats 4000000 in
set_option maxRecDepth 100000 in
theorem b_X5_goOn (C0 : cX p s m args meth c cX5_goOn 9 none RX5 wsX5_goOn D cy (xP ad sk sv)) (hj : jP ad) {rec : Int32 → Int32 → Int32 → Int32 → Int32 → mM → Option (mM)} {F Lc : Nat} (hrec : ∀ (x1 : Int32) (x2 : Int32) (x3 : Int32) (x4 : Int32) (x5 : Int32) (f : mM) (t : Int64) (fR : mM), rec x1 x2 x3 x4 x5 f = some fR → Met l yX5_goOn wsX5_goOn ({ frames := F, cells := 0, slots := 0, locals := Lc }) (va_Pc ([.ref (ad 39), .int x1, .int x2, .int x3, .int x4, .int x5]) (pre D cy (wP ad cy) (xP ad sk sv) f t)) (va_Qv (fun (u : mM × Int64) => u = (fR, t)) (atW D (wP ad cy)) (aP ad)) 0 0 (aP ad)) (hR : F + 2 ≤ R.frames ∧ Lc + 50 ≤ R.locals) (N : Nat) (x1 : Int32) (x2 : Int32) (x3 : Int32) (x4 : Int32) (x5 : Int32) (f : mM) (t : Int64) (fR : mM) (hf : q_X5_goOn rec N x1 x2 x3 x4 x5 f = some fR) (kr : ∀ (H : Heap) (locs : List Loc) (ls : Array Slot) (pc : Nat), decode cX5_goOn pc = .ok (.return_, 1) → va_P D vwCl (wP ad cy fR t) H → va_S (aP ad) s.heap H locs → W p l e R s m args below meth c H locs 0 0 Q (F0 m pc ls [])) (H : Heap) (locs : List Loc) (ls : Array Slot) (hP : va_P D vwCl (wP ad cy f t) H) (hS : va_S (aP ad) s.heap H locs) (hl : lv_has ls 9 [(0, .ref (ad 39)), (1, .int x1), (2, .int x2), (3, .int x3), (4, .int x4), (5, .int x5)]) : W p l e R s m args below meth c H locs 0 0 Q (F0 m 0 ls []) := by
  obtain ⟨hx, hb, hr, hml, hown, hts, hlocks, hK, hX0⟩ := id C0
  have lk9 := hts (.fieldLink RX5 9 "PlankNine$Rows" "most" "I") (List.mem_of_getElem? (i := 1) rfl)
  have hiX5 : ∀ w ∈ u_ws RX5 TX5 3, w ∈ wsX5_goOn := fun w h => List.mem_cons_of_mem _ (List.mem_append_left _ (List.mem_append_left _ (List.mem_append_right _ h)))
  have lk15 := hts (.fieldLink RX5 15 "PlankNine$Rows" "marsh" "LPlankNine$Marsh;") (List.mem_of_getElem? (i := 2) rfl)
  have ln52 := nlF_36 (args := args) hX0
  have hiX2 : ∀ w ∈ u_ws RX2 TX2 12, w ∈ wsX5_goOn := fun w h => List.mem_cons_of_mem _ (List.mem_append_left _ (List.mem_append_right _ h))
  have ln55 := nlF_30 (args := args) hX0
  unfold q_X5_goOn at hf
  refine lv_iload hx hb dX5_goOn_0 (lv_at hl 5 rfl) ?_
  refine lv_aload_n hx hb dX5_goOn_2 rfl (lv_at hl 0 rfl) ?_
  refine va_get (D := D) (ci := 5) (v := .int (f 39 2)) (C := RX5) (T := TX5) (N := 3) hx hb hts hiX5 hown hK hP 39 rfl rfl 2 (by decide) lk9 (fun _ h9 => h9) rfl dX5_goOn_3 ?_
  refine lv_icmp_gt (tgt := 10) hx hb dX5_goOn_6 (by decide) (fun c6 => ?_) (fun c6 => ?_)
  · have hf := itT hf c6
    refine lv_iload_n hx hb dX5_goOn_10 rfl (lv_at hl 2 rfl) ?_
    refine lv_aload_n hx hb dX5_goOn_11 rfl (lv_at hl 0 rfl) ?_
    refine va_get (D := D) (ci := 5) (v := .ref (ad 3)) (C := RX5) (T := TX5) (N := 3) hx hb hts hiX5 hown hK hP 39 rfl rfl 0 (by decide) lk15 (fun _ h9 => h9) rfl dX5_goOn_12 ?_
    refine va_getN (D := D) (ci := 2) (v := .ref (ad 11)) (C := RX2) (T := TX2) (N := 12) hx hb hts hiX2 hown hK hP 3 rfl rfl 11 (by decide) ln52 (fun _ h9 => h9) rfl dX5_goOn_15 ?_
    refine lv_iload_n hx hb dX5_goOn_18 rfl (lv_at hl 1 rfl) ?_
    obtain ⟨hin1, hf⟩ := gi_out hf
    refine va_iald hx hb hK hP 11 1 rfl rfl hin1 dX5_goOn_19 ?_
    refine lv_icmp_ne (tgt := 33) hx hb dX5_goOn_20 (by decide) (fun c20 => ?_) (fun c20 => ?_)
    · have hf := itF hf c20
      refine lv_iload_n hx hb dX5_goOn_33 rfl (lv_at hl 3 rfl) ?_
      refine lv_iconst (v := 5) hx hb dX5_goOn_34 (by decide) ?_
      refine lv_icmp_lt (tgt := 39) hx hb dX5_goOn_35 (by decide) (fun c35 => ?_) (fun c35 => ?_)
      · have hf := itT hf c35
        refine lv_aload_n hx hb dX5_goOn_39 rfl (lv_at hl 0 rfl) ?_
        refine va_get (D := D) (ci := 5) (v := .ref (ad 3)) (C := RX5) (T := TX5) (N := 3) hx hb hts hiX5 hown hK hP 39 rfl rfl 0 (by decide) lk15 (fun _ h9 => h9) rfl dX5_goOn_40 ?_
        refine lv_aload_n hx hb dX5_goOn_43 rfl (lv_at hl 0 rfl) ?_
        refine va_get (D := D) (ci := 5) (v := .ref (ad 3)) (C := RX5) (T := TX5) (N := 3) hx hb hts hiX5 hown hK hP 39 rfl rfl 0 (by decide) lk15 (fun _ h9 => h9) rfl dX5_goOn_44 ?_
        refine va_getN (D := D) (ci := 2) (v := .ref (ad 9)) (C := RX2) (T := TX2) (N := 12) hx hb hts hiX2 hown hK hP 3 rfl rfl 9 (by decide) ln55 (fun _ h9 => h9) rfl dX5_goOn_47 ?_
        refine lv_iload_n hx hb dX5_goOn_50 rfl (lv_at hl 1 rfl) ?_
        obtain ⟨hin2, hf⟩ := gi_out hf
        refine va_iald hx hb hK hP 9 1 rfl rfl hin2 dX5_goOn_51 ?_
        refine lv_iload_n hx hb dX5_goOn_52 rfl (lv_at hl 3 rfl) ?_
        obtain ⟨y3, hq4, hf⟩ := bi_out hf
        refine cw_vi (As := [.int (f 9 (Int32.toNatClampNeg x1)), .int x3]) (rest := []) ⟨hx, hb, hml, hown, hts⟩ xP_S hK hX0 hS hP (c_X2_takes hj l (f 9 (Int32.toNatClampNeg x1)) x3 f t y3 hq4) (cwV 2 hts gX5_goOn_X2_takes rfl rfl rfl (by decide +kernel) ⟨Nat.le_trans (show 1 ≤ F + 2 by omega) hR.1, Nat.le_trans (show 23 ≤ Lc + 50 by omega) hR.2⟩) (va_recv hK hP (ci := 2) (q0 := 3) rfl rfl) rfl hl.1 rfl (Nat.le_of_ble_eq_true rfl) ⟨Nat.zero_le _, Nat.zero_le _⟩ dX5_goOn_53 (fun H locs hP hS => ?_)
        refine lv_istore (lv' := [(6, .int y3), (0, .ref (ad 39)), (1, .int x1), (2, .int x2), (3, .int x3), (4, .int x4), (5, .int x5)]) hx hb dX5_goOn_56 hl (by decide) rfl (fun ls hl => ?_)
        refine lv_iconst (v := 0) hx hb dX5_goOn_58 (by decide) ?_
        refine lv_istore (lv' := [(7, .int 0), (6, .int y3), (0, .ref (ad 39)), (1, .int x1), (2, .int x2), (3, .int x3), (4, .int x4), (5, .int x5)]) hx hb dX5_goOn_59 hl (by decide) rfl (fun ls hl => ?_)
        obtain ⟨f20, hlp21, hf⟩ := bi_out hf
        refine lp_X5_goOn_61_w C0 hj hrec hR N x1 x2 x3 x4 x5 y3 t f20 ?_ N 0 f hlp21 H locs ls hP hS (lv_sub hl [2, 3, 4, 5, 6, 7, 1, 0] rfl)
        intro H locs ls hP hS hl
        obtain rfl := Option.some.inj hf
        exact kr H locs ls 168 dX5_goOn_168 hP hS
      · have hf := itF hf c35
        obtain rfl := Option.some.inj hf
        exact kr H locs ls 38 dX5_goOn_38 hP hS
    · have hf := itT hf c20
      refine lv_aload_n hx hb dX5_goOn_23 rfl (lv_at hl 0 rfl) ?_
      refine lv_iload_n hx hb dX5_goOn_24 rfl (lv_at hl 1 rfl) ?_
      refine lv_iconst (v := 1) hx hb dX5_goOn_25 (by decide) ?_
      refine lv_iadd hx hb dX5_goOn_26 ?_
      refine lv_iload hx hb dX5_goOn_27 (lv_at hl 5 rfl) ?_
      obtain ⟨f22, hq23, hf⟩ := bi_out hf
      refine cw_vv (As := [.int (x1 + 1), .int x5]) (rest := []) ⟨hx, hb, hml, hown, hts⟩ xP_S hK hX0 hS hP (c_X5_beginErrand hj l hrec N (x1 + 1) x5 f t f22 hq23) (cwV 2 hts gX5_goOn_X5_beginErrand rfl rfl rfl (by decide +kernel) ⟨Nat.le_trans (show F + 1 + 1 ≤ F + 2 by omega) hR.1, Nat.le_trans (show 8 + (3 + 11) + (Lc + 28) ≤ Lc + 50 by omega) hR.2⟩) (va_recv hK hP (ci := 5) (q0 := 39) rfl rfl) rfl hl.1 rfl (Nat.le_of_ble_eq_true rfl) ⟨Nat.zero_le _, Nat.zero_le _⟩ dX5_goOn_29 (fun H locs hP hS => ?_)
      obtain rfl := Option.some.inj hf
      exact kr H locs ls 32 dX5_goOn_32 hP hS
  · have hf := itF hf c6
    obtain rfl := Option.some.inj hf
    exact kr H locs ls 9 dX5_goOn_9 hP hS
set_option maxHeartbeats 4000000 in
set_option maxRecDepth 100000 in
theorem c_X5_goOn (hj : jP ad) (l : Launch) {rec : Int32 → Int32 → Int32 → Int32 → Int32 → mM → Option (mM)} {F Lc : Nat} (hrec : ∀ (x1 : Int32) (x2 : Int32) (x3 : Int32) (x4 : Int32) (x5 : Int32) (f : mM) (t : Int64) (fR : mM), rec x1 x2 x3 x4 x5 f = some fR → Met l yX5_goOn wsX5_goOn ({ frames := F, cells := 0, slots := 0, locals := Lc }) (va_Pc ([.ref (ad 39), .int x1, .int x2, .int x3, .int x4, .int x5]) (pre D cy (wP ad cy) (xP ad sk sv) f t)) (va_Qv (fun (u : mM × Int64) => u = (fR, t)) (atW D (wP ad cy)) (aP ad)) 0 0 (aP ad)) (N : Nat) (x1 : Int32) (x2 : Int32) (x3 : Int32) (x4 : Int32) (x5 : Int32) (f : mM) (t : Int64) (fR : mM) (hf : q_X5_goOn rec N x1 x2 x3 x4 x5 f = some fR) : Met l yX5_goOn wsX5_goOn ({ frames := F + 2, cells := 0, slots := 0, locals := Lc + 50 }) (va_Pc ([.ref (ad 39), .int x1, .int x2, .int x3, .int x4, .int x5]) (pre D cy (wP ad cy) (xP ad sk sv) f t)) (va_Qv (fun (u : mM × Int64) => u = (fR, t)) (atW D (wP ad cy)) (aP ad)) 0 0 (aP ad) := by
  refine Met.ofW (cc := cX5_goOn) (maxL := 9) (ret := none) (by decide) rfl ?_
  intro p e s m args below meth c s₁ B hml hv
  obtain ⟨rfl, hP, hK, hX0⟩ := hv
  have hl := lv_entry ([.ref (ad 39), .int x1, .int x2, .int x3, .int x4, .int x5]) (n := 9) (Nat.le_of_ble_eq_true rfl)
  rw [lg_entry_eq]
  generalize (lg_sl ([.ref (ad 39), .int x1, .int x2, .int x3, .int x4, .int x5]) ++ List.replicate (9 - (lg_sl ([.ref (ad 39), .int x1, .int x2, .int x3, .int x4, .int x5])).length) Slot.unset).toArray = ls at hl ⊢
  have hlocks := B.notSynchronized
  exact b_X5_goOn ⟨B.exec, B.bytes, B.returns, hml, findClass_of_methodNamed B.named, atoms_spec (ws := wsX5_goOn) B.pre, hlocks, hK, hX0⟩ hj hrec ⟨Nat.le_refl _, Nat.le_refl _⟩ N x1 x2 x3 x4 x5 f t fR hf (fun H locs ls pc hd hP hS => W.vret B.exec B.bytes B.returns (fun t2 ht hW => ⟨⟨(fR, t), rfl, rfl, by show va_P D vwCl _ t2.heap; rw [ht]; exact hP⟩, hS.F ht⟩) hS.2.2 hd) s.heap [] ls hP va_S.rf hl
def r_X5_goOn (N : Nat) : Nat → Int32 → Int32 → Int32 → Int32 → Int32 → mM → Option (mM)
  | 0 => fun _ _ _ _ _ _ => none
  | d + 1 => q_X5_goOn (r_X5_goOn N d) N
theorem c_X5_goOn_r (hj : jP ad) (l : Launch) (N : Nat) : ∀ (d : Nat) (x1 : Int32) (x2 : Int32) (x3 : Int32) (x4 : Int32) (x5 : Int32) (f : mM) (t : Int64) (fR : mM), r_X5_goOn N d x1 x2 x3 x4 x5 f = some fR → Met l yX5_goOn wsX5_goOn ({ frames := 2 * d, cells := 0, slots := 0, locals := 50 * d }) (va_Pc ([.ref (ad 39), .int x1, .int x2, .int x3, .int x4, .int x5]) (pre D cy (wP ad cy) (xP ad sk sv) f t)) (va_Qv (fun (u : mM × Int64) => u = (fR, t)) (atW D (wP ad cy)) (aP ad)) 0 0 (aP ad) := by
  intro d
  induction d with
  | zero =>
    intro x1 x2 x3 x4 x5 f t fR hf
    exact no_none hf
  | succ d ih =>
    intro x1 x2 x3 x4 x5 f t fR hf
    exact c_X5_goOn hj l ih N x1 x2 x3 x4 x5 f t fR hf
def q_X5_mostLeft (N : Nat) (f : mM) : Option (Int32 × mM) := sq (st2 f 39 2 (-9)) (fun f1 => bi (q_X3_borneByAll N f1) (fun y2 => bi (q_X5_beginErrand (r_X5_goOn N 20) N 0 y2 f1) (fun f4 => some ((f4 39 2), f4))))
set_option maxHeartbeats 4000000 in
set_option maxRecDepth 100000 in
theorem b_X5_mostLeft (C0 : cX p s m args meth c cX5_mostLeft 1 (some .int) RX5 wsX5_mostLeft D cy (xP ad sk sv)) (hj : jP ad) (hR : 42 ≤ R.frames ∧ 1050 ≤ R.locals) (N : Nat)  (f : mM) (t : Int64) (r : Int32) (fR : mM) (hf : q_X5_mostLeft N f = some (r, fR)) (kr : ∀ (H : Heap) (locs : List Loc) (ls : Array Slot) (pc : Nat), decode cX5_mostLeft pc = .ok (.ireturn, 1) → va_P D vwCl (wP ad cy fR t) H → va_S (aP ad) s.heap H locs → W p l e R s m args below meth c H locs 0 0 Q (F0 m pc ls [.int r])) (H : Heap) (locs : List Loc) (ls : Array Slot) (hP : va_P D vwCl (wP ad cy f t) H) (hS : va_S (aP ad) s.heap H locs) (hl : lv_has ls 1 [(0, .ref (ad 39))]) : W p l e R s m args below meth c H locs 0 0 Q (F0 m 0 ls []) := by
  obtain ⟨hx, hb, hr, hml, hown, hts, hlocks, hK, hX0⟩ := id C0
  have lk9 := hts (.fieldLink RX5 9 "PlankNine$Rows" "most" "I") (List.mem_of_getElem? (i := 1) rfl)
  have hiX5 : ∀ w ∈ u_ws RX5 TX5 3, w ∈ wsX5_mostLeft := fun w h => List.mem_cons_of_mem _ (List.mem_append_left _ (List.mem_append_left _ (List.mem_append_right _ h)))
  have lk19 := hts (.fieldLink RX5 19 "PlankNine$Rows" "now" "LPlankNine$Now;") (List.mem_of_getElem? (i := 2) rfl)
  unfold q_X5_mostLeft at hf
  refine lv_aload_n hx hb dX5_mostLeft_0 rfl (lv_at hl 0 rfl) ?_
  refine lv_bipush (v := (-9)) hx hb dX5_mostLeft_1 (by decide) ?_
  obtain ⟨f1, ef1, hf⟩ := sq_out hf
  refine va_put (D := D) (ci := 5) (v := .int (-9)) (ty := .int) (C := RX5) (T := TX5) (N := 3) hx hb hts hiX5 tyX5 tyX5_ok nmX5 hown hK hP (dP hj f t) hS 39 rfl rfl 2 (by decide) lk9 (fun _ h9 => h9) rfl (by decide +kernel) rfl rfl (Nat.le_of_ble_eq_true rfl) dX5_mostLeft_3 (fun H locs hP _ hS => ?_)
  have hP := sP_39_2 ef1 hP
  refine lv_aload_n hx hb dX5_mostLeft_6 rfl (lv_at hl 0 rfl) ?_
  refine lv_iconst (v := 0) hx hb dX5_mostLeft_7 (by decide) ?_
  refine lv_aload_n hx hb dX5_mostLeft_8 rfl (lv_at hl 0 rfl) ?_
  refine va_get (D := D) (ci := 5) (v := .ref (ad 23)) (C := RX5) (T := TX5) (N := 3) hx hb hts hiX5 hown hK hP 39 rfl rfl 1 (by decide) lk19 (fun _ h9 => h9) rfl dX5_mostLeft_9 ?_
  obtain ⟨y2, hq3, hf⟩ := bi_out hf
  refine cw_vi (As := []) (rest := [.int 0, .ref (ad 39)]) ⟨hx, hb, hml, hown, hts⟩ xP_S hK hX0 hS hP (c_X3_borneByAll hj l N f1 t y2 hq3) (cwV 0 hts gX5_mostLeft_X3_borneByAll rfl rfl rfl (by decide +kernel) ⟨Nat.le_trans (Nat.le_of_ble_eq_true rfl) hR.1, Nat.le_trans (Nat.le_of_ble_eq_true rfl) hR.2⟩) (va_recv hK hP (ci := 3) (q0 := 23) rfl rfl) rfl hl.1 rfl (Nat.le_of_ble_eq_true rfl) ⟨Nat.zero_le _, Nat.zero_le _⟩ dX5_mostLeft_12 (fun H locs hP hS => ?_)
  obtain ⟨f4, hq5, hf⟩ := bi_out hf
  refine cw_vv (As := [.int 0, .int y2]) (rest := []) ⟨hx, hb, hml, hown, hts⟩ xP_S hK hX0 hS hP (c_X5_beginErrand hj l (c_X5_goOn_r hj l N 20) N 0 y2 f1 t f4 hq5) (cwV 2 hts gX5_mostLeft_X5_beginErrand rfl rfl rfl (by decide +kernel) ⟨Nat.le_trans (Nat.le_of_ble_eq_true rfl) hR.1, Nat.le_trans (Nat.le_of_ble_eq_true rfl) hR.2⟩) (va_recv hK hP (ci := 5) (q0 := 39) rfl rfl) rfl hl.1 rfl (Nat.le_of_ble_eq_true rfl) ⟨Nat.zero_le _, Nat.zero_le _⟩ dX5_mostLeft_15 (fun H locs hP hS => ?_)
  refine lv_aload_n hx hb dX5_mostLeft_18 rfl (lv_at hl 0 rfl) ?_
  refine va_get (D := D) (ci := 5) (v := .int (f4 39 2)) (C := RX5) (T := TX5) (N := 3) hx hb hts hiX5 hown hK hP 39 rfl rfl 2 (by decide) lk9 (fun _ h9 => h9) rfl dX5_mostLeft_19 ?_
  obtain ⟨rfl, rfl⟩ := Prod.mk.inj (Option.some.inj hf)
  exact kr H locs ls 22 dX5_mostLeft_22 hP hS
set_option maxHeartbeats 4000000 in
set_option maxRecDepth 100000 in
theorem c_X5_mostLeft (hj : jP ad) (l : Launch) (N : Nat)  (f : mM) (t : Int64) (r : Int32) (fR : mM) (hf : q_X5_mostLeft N f = some (r, fR)) : Met l yX5_mostLeft wsX5_mostLeft ({ frames := 42, cells := 0, slots := 0, locals := 1050 }) (va_Pc ([.ref (ad 39)]) (pre D cy (wP ad cy) (xP ad sk sv) f t)) (va_Qi (fun (r2 : Int32) (u : mM × Int64) => r2 = r ∧ u = (fR, t)) (atW D (wP ad cy)) (aP ad)) 0 0 (aP ad) := by
  refine Met.ofW (cc := cX5_mostLeft) (maxL := 1) (ret := (some .int)) (by decide) rfl ?_
  intro p e s m args below meth c s₁ B hml hv
  obtain ⟨rfl, hP, hK, hX0⟩ := hv
  have hl := lv_entry ([.ref (ad 39)]) (n := 1) (Nat.le_of_ble_eq_true rfl)
  rw [lg_entry_eq]
  generalize (lg_sl ([.ref (ad 39)]) ++ List.replicate (1 - (lg_sl ([.ref (ad 39)])).length) Slot.unset).toArray = ls at hl ⊢
  have hlocks := B.notSynchronized
  exact b_X5_mostLeft ⟨B.exec, B.bytes, B.returns, hml, findClass_of_methodNamed B.named, atoms_spec (ws := wsX5_mostLeft) B.pre, hlocks, hK, hX0⟩ hj ⟨Nat.le_refl _, Nat.le_refl _⟩ N  f t r fR hf (fun H locs ls pc hd hP hS => W.iret B.exec B.bytes B.returns (fun t2 ht hW => ⟨⟨r, (fR, t), rfl, ⟨rfl, rfl⟩, by show va_P D vwCl _ t2.heap; rw [ht]; exact hP⟩, hS.F ht⟩) hS.2.2 hd) s.heap [] ls hP va_S.rf hl
