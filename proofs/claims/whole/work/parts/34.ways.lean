variable {p : Program} {l : Launch} {e : Env} {R : Room} {s : State} {m : MethodId} {args : Array Value} {below : List Frame} {meth : Method} {c : Code} {Q : State → Prop} {D : va_G} {cy : Nat → ClassId} {ad sk sv : Nat → Nat}
def lp_X8_findFrom_48 (rec : Int32 → Int32 → Int32 → Int32 → Int32 → Int32 → mM → Option (Int32 × mM)) (N : Nat) (x1 : Int32) (x2 : Int32) (x3 : Int32) (x4 : Int32) (x5 : Int32) (x6 : Int32) (x7 : Int32) : Nat → Int32 → mM → Option (Nat × mM)
  | 0, _, _ => none
  | n + 1, x8, f => if (f 3 1) ≤ x8 then some (1, f) else bi (q_X2_across x8 x2 x6 f) (fun y3 => if y3 = (-1) then sq (x8 + 1) (fun x8_5 => lp_X8_findFrom_48 rec N x1 x2 x3 x4 x5 x6 x7 n x8_5 f) else bi (q_X3_canTake x8 x7 f) (fun y6 => if y6 = 0 then sq (x8 + 1) (fun x8_14 => lp_X8_findFrom_48 rec N x1 x2 x3 x4 x5 x6 x7 n x8_14 f) else gi x5 5 (sq (st2 f 38 (Int32.toNatClampNeg x5) x8) (fun f9 => bi2 (rec x1 y3 x3 x4 (x5 + 1) (x6 ||| (1 <<< (y3 &&& 31))) f9) (fun y10 f11 => if y10 = 0 then sq (x8 + 1) (fun x8_13 => lp_X8_findFrom_48 rec N x1 x2 x3 x4 x5 x6 x7 n x8_13 f11) else some (0, f11))))))
theorem lp_X8_findFrom_48_s (rec : Int32 → Int32 → Int32 → Int32 → Int32 → Int32 → mM → Option (Int32 × mM)) (N : Nat) (x1 : Int32) (x2 : Int32) (x3 : Int32) (x4 : Int32) (x5 : Int32) (x6 : Int32) (x7 : Int32) (n : Nat) (x8 : Int32) (f : mM) : lp_X8_findFrom_48 rec N x1 x2 x3 x4 x5 x6 x7 (n + 1) x8 f = (if (f 3 1) ≤ x8 then some (1, f) else bi (q_X2_across x8 x2 x6 f) (fun y3 => if y3 = (-1) then sq (x8 + 1) (fun x8_5 => lp_X8_findFrom_48 rec N x1 x2 x3 x4 x5 x6 x7 n x8_5 f) else bi (q_X3_canTake x8 x7 f) (fun y6 => if y6 = 0 then sq (x8 + 1) (fun x8_14 => lp_X8_findFrom_48 rec N x1 x2 x3 x4 x5 x6 x7 n x8_14 f) else gi x5 5 (sq (st2 f 38 (Int32.toNatClampNeg x5) x8) (fun f9 => bi2 (rec x1 y3 x3 x4 (x5 + 1) (x6 ||| (1 <<< (y3 &&& 31))) f9) (fun y10 f11 => if y10 = 0 then sq (x8 + 1) (fun x8_13 => lp_X8_findFrom_48 rec N x1 x2 x3 x4 x5 x6 x7 n x8_13 f11) else some (0, f11))))))) := rfl
set_option maxHeartbeats 4000000 in
set_option maxRecDepth 100000 in
theorem lp_X8_findFrom_48_w (C0 : cX p s m args meth c cX8_findFrom 10 (some .boolean) RX8 wsX8_findFrom D cy (xP ad sk sv)) (hj : jP ad) {rec : Int32 → Int32 → Int32 → Int32 → Int32 → Int32 → mM → Option (Int32 × mM)} {F Lc : Nat} (hrec : ∀ (x1 : Int32) (x2 : Int32) (x3 : Int32) (x4 : Int32) (x5 : Int32) (x6 : Int32) (f : mM) (t : Int64) (r : Int32) (fR : mM), rec x1 x2 x3 x4 x5 x6 f = some (r, fR) → Met l yX8_findFrom wsX8_findFrom ({ frames := F, cells := 0, slots := 0, locals := Lc }) (va_Pc ([.ref (ad 37), .int x1, .int x2, .int x3, .int x4, .int x5, .int x6]) (pre D cy (wP ad cy) (xP ad sk sv) f t)) (va_Qi (fun (r2 : Int32) (u : mM × Int64) => r2 = r ∧ u = (fR, t)) (atW D (wP ad cy)) (aP ad)) 0 0 (aP ad)) (hR : F + 2 ≤ R.frames ∧ Lc + 46 ≤ R.locals) (N : Nat) (x1 : Int32) (x2 : Int32) (x3 : Int32) (x4 : Int32) (x5 : Int32) (x6 : Int32) (x7 : Int32) (t : Int64) (g0 : Nat) (fR : mM) (kx130 : g0 = 0 → ∀ (H : Heap) (locs : List Loc) (ls : Array Slot), va_P D vwCl (wP ad cy fR t) H → va_S (aP ad) s.heap H locs → lv_has ls 10 [] → W p l e R s m args below meth c H locs 0 0 Q (F0 m 130 ls [])) (kx138 : g0 = 1 → ∀ (H : Heap) (locs : List Loc) (ls : Array Slot), va_P D vwCl (wP ad cy fR t) H → va_S (aP ad) s.heap H locs → lv_has ls 10 [] → W p l e R s m args below meth c H locs 0 0 Q (F0 m 138 ls [])) : ∀ (n : Nat) (x8 : Int32) (f : mM), lp_X8_findFrom_48 rec N x1 x2 x3 x4 x5 x6 x7 n x8 f = some (g0, fR) → ∀ (H : Heap) (locs : List Loc) (ls : Array Slot), va_P D vwCl (wP ad cy f t) H → va_S (aP ad) s.heap H locs → lv_has ls 10 [(0, .ref (ad 37)), (1, .int x1), (2, .int x2), (3, .int x3), (4, .int x4), (5, .int x5), (6, .int x6), (7, .int x7), (8, .int x8)] → W p l e R s m args below meth c H locs 0 0 Q (F0 m 48 ls []) := by
  obtain ⟨hx, hb, hr, hml, hown, hts, hlocks, hK, hX0⟩ := id C0
  have lk15 := hts (.fieldLink RX8 15 "PlankNine$Ways" "marsh" "LPlankNine$Marsh;") (List.mem_of_getElem? (i := 1) rfl)
  have hiX8 : ∀ w ∈ u_ws RX8 TX8 3, w ∈ wsX8_findFrom := fun w h => List.mem_cons_of_mem _ (List.mem_append_left _ (List.mem_append_left _ (List.mem_append_right _ h)))
  have ln37 := nlF_10 (args := args) hX0
  have hiX2 : ∀ w ∈ u_ws RX2 TX2 12, w ∈ wsX8_findFrom := fun w h => List.mem_cons_of_mem _ (List.mem_append_left _ (List.mem_append_right _ h))
  have lk19 := hts (.fieldLink RX8 19 "PlankNine$Ways" "now" "LPlankNine$Now;") (List.mem_of_getElem? (i := 2) rfl)
  have lk9 := hts (.fieldLink RX8 9 "PlankNine$Ways" "found" "[I") (List.mem_of_getElem? (i := 3) rfl)
  intro n
  induction n with
  | zero =>
    intro x8 f hf
    exact no_none hf
  | succ n ih =>
    intro x8 f hf H locs ls hP hS hl
    have hf := (lp_X8_findFrom_48_s rec N x1 x2 x3 x4 x5 x6 x7 n x8 f).symm.trans hf
    refine lv_iload hx hb dX8_findFrom_48 (lv_at hl 8 rfl) ?_
    refine lv_aload_n hx hb dX8_findFrom_50 rfl (lv_at hl 0 rfl) ?_
    refine va_get (D := D) (ci := 8) (v := .ref (ad 3)) (C := RX8) (T := TX8) (N := 3) hx hb hts hiX8 hown hK hP 37 rfl rfl 0 (by decide) lk15 (fun _ h9 => h9) rfl dX8_findFrom_51 ?_
    refine va_getN (D := D) (ci := 2) (v := .int (f 3 1)) (C := RX2) (T := TX2) (N := 12) hx hb hts hiX2 hown hK hP 3 rfl rfl 1 (by decide) ln37 (fun _ h9 => h9) rfl dX8_findFrom_54 ?_
    refine lv_icmp_ge (tgt := 138) hx hb dX8_findFrom_57 (by decide) (fun c57 => ?_) (fun c57 => ?_)
    · have hf := itT hf c57
      have hg_0 := Option.some.inj hf
      obtain ⟨rfl, rfl⟩ := Prod.mk.inj hg_0
      exact kx138 rfl H locs ls hP hS (lv_sub hl [] rfl)
    · have hf := itF hf c57
      refine lv_aload_n hx hb dX8_findFrom_60 rfl (lv_at hl 0 rfl) ?_
      refine va_get (D := D) (ci := 8) (v := .ref (ad 3)) (C := RX8) (T := TX8) (N := 3) hx hb hts hiX8 hown hK hP 37 rfl rfl 0 (by decide) lk15 (fun _ h9 => h9) rfl dX8_findFrom_61 ?_
      refine lv_iload hx hb dX8_findFrom_64 (lv_at hl 8 rfl) ?_
      refine lv_iload_n hx hb dX8_findFrom_66 rfl (lv_at hl 2 rfl) ?_
      refine lv_iload hx hb dX8_findFrom_67 (lv_at hl 6 rfl) ?_
      obtain ⟨y3, hq4, hf⟩ := bi_out hf
      refine cw_vi (As := [.int x8, .int x2, .int x6]) (rest := []) ⟨hx, hb, hml, hown, hts⟩ xP_S hK hX0 hS hP (c_X2_across hj l x8 x2 x6 f t y3 hq4) (cwV 3 hts gX8_findFrom_X2_across rfl rfl rfl (by decide +kernel) ⟨Nat.le_trans (show 2 ≤ F + 2 by omega) hR.1, Nat.le_trans (show 46 ≤ Lc + 46 by omega) hR.2⟩) (va_recv hK hP (ci := 2) (q0 := 3) rfl rfl) rfl hl.1 rfl (Nat.le_of_ble_eq_true rfl) ⟨Nat.zero_le _, Nat.zero_le _⟩ dX8_findFrom_69 (fun H locs hP hS => ?_)
      refine lv_istore (lv' := [(9, .int y3), (0, .ref (ad 37)), (1, .int x1), (2, .int x2), (3, .int x3), (4, .int x4), (5, .int x5), (6, .int x6), (7, .int x7), (8, .int x8)]) hx hb dX8_findFrom_72 hl (by decide) rfl (fun ls hl => ?_)
      refine lv_iload hx hb dX8_findFrom_74 (lv_at hl 0 rfl) ?_
      refine lv_iconst (v := (-1)) hx hb dX8_findFrom_76 (by decide) ?_
      refine lv_icmp_eq (tgt := 132) hx hb dX8_findFrom_77 (by decide) (fun c77 => ?_) (fun c77 => ?_)
      · have hf := itT hf c77
        obtain ⟨x8_5, ex8_5, hf⟩ := sq_out hf
        refine lv_iinc (v := x8_5) (lv' := [(8, .int x8_5), (9, .int y3), (0, .ref (ad 37)), (1, .int x1), (2, .int x2), (3, .int x3), (4, .int x4), (5, .int x5), (6, .int x6), (7, .int x7)]) hx hb dX8_findFrom_132 hl (k := 9) rfl (by rw [ex8_5]; rfl) (by decide) rfl (fun ls hl => ?_)
        refine lv_goto (tgt := 48) hx hb dX8_findFrom_135 (by decide) ?_
        exact ih x8_5 f hf H locs ls hP hS (lv_sub hl [2, 3, 4, 5, 6, 7, 8, 9, 0] rfl)
      · have hf := itF hf c77
        refine lv_aload_n hx hb dX8_findFrom_80 rfl (lv_at hl 1 rfl) ?_
        refine va_get (D := D) (ci := 8) (v := .ref (ad 23)) (C := RX8) (T := TX8) (N := 3) hx hb hts hiX8 hown hK hP 37 rfl rfl 1 (by decide) lk19 (fun _ h9 => h9) rfl dX8_findFrom_81 ?_
        refine lv_iload hx hb dX8_findFrom_84 (lv_at hl 9 rfl) ?_
        refine lv_iload hx hb dX8_findFrom_86 (lv_at hl 8 rfl) ?_
        obtain ⟨y6, hq7, hf⟩ := bi_out hf
        refine cw_vi (As := [.int x8, .int x7]) (rest := []) ⟨hx, hb, hml, hown, hts⟩ xP_S hK hX0 hS hP (c_X3_canTake hj l x8 x7 f t y6 hq7) (cwV 2 hts gX8_findFrom_X3_canTake rfl rfl rfl (by decide +kernel) ⟨Nat.le_trans (show 1 ≤ F + 2 by omega) hR.1, Nat.le_trans (show 22 ≤ Lc + 46 by omega) hR.2⟩) (va_recv hK hP (ci := 3) (q0 := 23) rfl rfl) rfl hl.1 rfl (Nat.le_of_ble_eq_true rfl) ⟨Nat.zero_le _, Nat.zero_le _⟩ dX8_findFrom_88 (fun H locs hP hS => ?_)
        refine lv_if_ne (tgt := 97) hx hb dX8_findFrom_91 (by decide) (fun c91 => ?_) (fun c91 => ?_)
        · have hf := itF hf c91
          refine lv_aload_n hx hb dX8_findFrom_97 rfl (lv_at hl 1 rfl) ?_
          refine va_get (D := D) (ci := 8) (v := .ref (ad 38)) (C := RX8) (T := TX8) (N := 3) hx hb hts hiX8 hown hK hP 37 rfl rfl 2 (by decide) lk9 (fun _ h9 => h9) rfl dX8_findFrom_98 ?_
          refine lv_iload hx hb dX8_findFrom_101 (lv_at hl 6 rfl) ?_
          refine lv_iload hx hb dX8_findFrom_103 (lv_at hl 9 rfl) ?_
          obtain ⟨hin8, hf⟩ := gi_out hf
          obtain ⟨f9, ef9, hf⟩ := sq_out hf
          refine va_iast hx hb hK hP (dP hj f t) hS 38 1 rfl rfl hin8 dX8_findFrom_105 (fun H locs hP _ hS => ?_)
          have hP := sP_38 ef9 hP
          refine lv_aload_n hx hb dX8_findFrom_106 rfl (lv_at hl 1 rfl) ?_
          refine lv_iload_n hx hb dX8_findFrom_107 rfl (lv_at hl 2 rfl) ?_
          refine lv_iload hx hb dX8_findFrom_108 (lv_at hl 0 rfl) ?_
          refine lv_iload_n hx hb dX8_findFrom_110 rfl (lv_at hl 4 rfl) ?_
          refine lv_iload hx hb dX8_findFrom_111 (lv_at hl 5 rfl) ?_
          refine lv_iload hx hb dX8_findFrom_113 (lv_at hl 6 rfl) ?_
          refine lv_iconst (v := 1) hx hb dX8_findFrom_115 (by decide) ?_
          refine lv_iadd hx hb dX8_findFrom_116 ?_
          refine lv_iload hx hb dX8_findFrom_117 (lv_at hl 7 rfl) ?_
          refine lv_iconst (v := 1) hx hb dX8_findFrom_119 (by decide) ?_
          refine lv_iload hx hb dX8_findFrom_120 (lv_at hl 0 rfl) ?_
          refine lv_ishl hx hb dX8_findFrom_122 ?_
          refine lv_ior hx hb dX8_findFrom_123 ?_
          obtain ⟨y10, f11, hq12, hf⟩ := bi2_out hf
          refine cw_vi (As := [.int x1, .int y3, .int x3, .int x4, .int (x5 + 1), .int (x6 ||| (1 <<< (y3 &&& 31)))]) (rest := []) ⟨hx, hb, hml, hown, hts⟩ xP_S hK hX0 hS hP (hrec x1 y3 x3 x4 (x5 + 1) (x6 ||| (1 <<< (y3 &&& 31))) f9 t y10 f11 hq12) (cwV 6 hts gX8_findFrom_X8_findFrom rfl rfl rfl (by decide +kernel) ⟨Nat.le_trans (show F + 1 ≤ F + 2 by omega) hR.1, Nat.le_trans (show 8 + (10 + 11) + Lc ≤ Lc + 46 by omega) hR.2⟩) (va_recv hK hP (ci := 8) (q0 := 37) rfl rfl) rfl hl.1 rfl (Nat.le_of_ble_eq_true rfl) ⟨Nat.zero_le _, Nat.zero_le _⟩ dX8_findFrom_124 (fun H locs hP hS => ?_)
          refine lv_if_eq (tgt := 132) hx hb dX8_findFrom_127 (by decide) (fun c127 => ?_) (fun c127 => ?_)
          · have hf := itT hf c127
            obtain ⟨x8_13, ex8_13, hf⟩ := sq_out hf
            refine lv_iinc (v := x8_13) (lv' := [(8, .int x8_13), (9, .int y3), (0, .ref (ad 37)), (1, .int x1), (2, .int x2), (3, .int x3), (4, .int x4), (5, .int x5), (6, .int x6), (7, .int x7)]) hx hb dX8_findFrom_132 hl (k := 9) rfl (by rw [ex8_13]; rfl) (by decide) rfl (fun ls hl => ?_)
            refine lv_goto (tgt := 48) hx hb dX8_findFrom_135 (by decide) ?_
            exact ih x8_13 f11 hf H locs ls hP hS (lv_sub hl [2, 3, 4, 5, 6, 7, 8, 9, 0] rfl)
          · have hf := itF hf c127
            have hg_0 := Option.some.inj hf
            obtain ⟨rfl, rfl⟩ := Prod.mk.inj hg_0
            exact kx130 rfl H locs ls hP hS (lv_sub hl [] rfl)
        · have hf := itT hf c91
          refine lv_goto (tgt := 132) hx hb dX8_findFrom_94 (by decide) ?_
          obtain ⟨x8_14, ex8_14, hf⟩ := sq_out hf
          refine lv_iinc (v := x8_14) (lv' := [(8, .int x8_14), (9, .int y3), (0, .ref (ad 37)), (1, .int x1), (2, .int x2), (3, .int x3), (4, .int x4), (5, .int x5), (6, .int x6), (7, .int x7)]) hx hb dX8_findFrom_132 hl (k := 9) rfl (by rw [ex8_14]; rfl) (by decide) rfl (fun ls hl => ?_)
          refine lv_goto (tgt := 48) hx hb dX8_findFrom_135 (by decide) ?_
          exact ih x8_14 f hf H locs ls hP hS (lv_sub hl [2, 3, 4, 5, 6, 7, 8, 9, 0] rfl)
def q_X8_findFrom (rec : Int32 → Int32 → Int32 → Int32 → Int32 → Int32 → mM → Option (Int32 × mM)) (N : Nat) (x1 : Int32) (x2 : Int32) (x3 : Int32) (x4 : Int32) (x5 : Int32) (x6 : Int32) (f : mM) : Option (Int32 × mM) := if x2 = x3 then if x5 = x4 then rz 1 (some (1, f)) else rz 0 (some (0, f)) else if x4 ≤ x5 then rz 0 (some (0, f)) else if x5 < 5 then bi (q_X2_takes x1 x5 f) (fun y1 => bi2 (lp_X8_findFrom_48 rec N x1 x2 x3 x4 x5 x6 y1 N 0 f) (fun g15 f16 => if g15 = 0 then rz 1 (some (1, f16)) else if g15 = 1 then rz 0 (some (0, f16)) else none)) else rz 0 (some (0, f))
set_option maxHeartbeats 4000000 in
set_option maxRecDepth 100000 in
theorem b_X8_findFrom (C0 : cX p s m args meth c cX8_findFrom 10 (some .boolean) RX8 wsX8_findFrom D cy (xP ad sk sv)) (hj : jP ad) {rec : Int32 → Int32 → Int32 → Int32 → Int32 → Int32 → mM → Option (Int32 × mM)} {F Lc : Nat} (hrec : ∀ (x1 : Int32) (x2 : Int32) (x3 : Int32) (x4 : Int32) (x5 : Int32) (x6 : Int32) (f : mM) (t : Int64) (r : Int32) (fR : mM), rec x1 x2 x3 x4 x5 x6 f = some (r, fR) → Met l yX8_findFrom wsX8_findFrom ({ frames := F, cells := 0, slots := 0, locals := Lc }) (va_Pc ([.ref (ad 37), .int x1, .int x2, .int x3, .int x4, .int x5, .int x6]) (pre D cy (wP ad cy) (xP ad sk sv) f t)) (va_Qi (fun (r2 : Int32) (u : mM × Int64) => r2 = r ∧ u = (fR, t)) (atW D (wP ad cy)) (aP ad)) 0 0 (aP ad)) (hR : F + 2 ≤ R.frames ∧ Lc + 46 ≤ R.locals) (N : Nat) (x1 : Int32) (x2 : Int32) (x3 : Int32) (x4 : Int32) (x5 : Int32) (x6 : Int32) (f : mM) (t : Int64) (r : Int32) (fR : mM) (hf : q_X8_findFrom rec N x1 x2 x3 x4 x5 x6 f = some (r, fR)) (kr : ∀ (H : Heap) (locs : List Loc) (ls : Array Slot) (pc : Nat), decode cX8_findFrom pc = .ok (.ireturn, 1) → narrow .boolean (.int r) = .int r → va_P D vwCl (wP ad cy fR t) H → va_S (aP ad) s.heap H locs → W p l e R s m args below meth c H locs 0 0 Q (F0 m pc ls [.int r])) (H : Heap) (locs : List Loc) (ls : Array Slot) (hP : va_P D vwCl (wP ad cy f t) H) (hS : va_S (aP ad) s.heap H locs) (hl : lv_has ls 10 [(0, .ref (ad 37)), (1, .int x1), (2, .int x2), (3, .int x3), (4, .int x4), (5, .int x5), (6, .int x6)]) : W p l e R s m args below meth c H locs 0 0 Q (F0 m 0 ls []) := by
  obtain ⟨hx, hb, hr, hml, hown, hts, hlocks, hK, hX0⟩ := id C0
  have lk15 := hts (.fieldLink RX8 15 "PlankNine$Ways" "marsh" "LPlankNine$Marsh;") (List.mem_of_getElem? (i := 1) rfl)
  have hiX8 : ∀ w ∈ u_ws RX8 TX8 3, w ∈ wsX8_findFrom := fun w h => List.mem_cons_of_mem _ (List.mem_append_left _ (List.mem_append_left _ (List.mem_append_right _ h)))
  unfold q_X8_findFrom at hf
  refine lv_iload_n hx hb dX8_findFrom_0 rfl (lv_at hl 2 rfl) ?_
  refine lv_iload_n hx hb dX8_findFrom_1 rfl (lv_at hl 3 rfl) ?_
  refine lv_icmp_ne (tgt := 18) hx hb dX8_findFrom_2 (by decide) (fun c2 => ?_) (fun c2 => ?_)
  · have hf := itF hf c2
    refine lv_iload hx hb dX8_findFrom_18 (lv_at hl 5 rfl) ?_
    refine lv_iload hx hb dX8_findFrom_20 (lv_at hl 4 rfl) ?_
    refine lv_icmp_ge (tgt := 31) hx hb dX8_findFrom_22 (by decide) (fun c22 => ?_) (fun c22 => ?_)
    · have hf := itT hf c22
      refine lv_iconst (v := 0) hx hb dX8_findFrom_31 (by decide) ?_
      obtain ⟨hz, hf⟩ := rz_out hf
      obtain ⟨rfl, rfl⟩ := Prod.mk.inj (Option.some.inj hf)
      exact kr H locs ls 32 dX8_findFrom_32 hz hP hS
    · have hf := itF hf c22
      refine lv_iload hx hb dX8_findFrom_25 (lv_at hl 5 rfl) ?_
      refine lv_iconst (v := 5) hx hb dX8_findFrom_27 (by decide) ?_
      refine lv_icmp_lt (tgt := 33) hx hb dX8_findFrom_28 (by decide) (fun c28 => ?_) (fun c28 => ?_)
      · have hf := itT hf c28
        refine lv_aload_n hx hb dX8_findFrom_33 rfl (lv_at hl 0 rfl) ?_
        refine va_get (D := D) (ci := 8) (v := .ref (ad 3)) (C := RX8) (T := TX8) (N := 3) hx hb hts hiX8 hown hK hP 37 rfl rfl 0 (by decide) lk15 (fun _ h9 => h9) rfl dX8_findFrom_34 ?_
        refine lv_iload_n hx hb dX8_findFrom_37 rfl (lv_at hl 1 rfl) ?_
        refine lv_iload hx hb dX8_findFrom_38 (lv_at hl 5 rfl) ?_
        obtain ⟨y1, hq2, hf⟩ := bi_out hf
        refine cw_vi (As := [.int x1, .int x5]) (rest := []) ⟨hx, hb, hml, hown, hts⟩ xP_S hK hX0 hS hP (c_X2_takes hj l x1 x5 f t y1 hq2) (cwV 2 hts gX8_findFrom_X2_takes rfl rfl rfl (by decide +kernel) ⟨Nat.le_trans (show 1 ≤ F + 2 by omega) hR.1, Nat.le_trans (show 23 ≤ Lc + 46 by omega) hR.2⟩) (va_recv hK hP (ci := 2) (q0 := 3) rfl rfl) rfl hl.1 rfl (Nat.le_of_ble_eq_true rfl) ⟨Nat.zero_le _, Nat.zero_le _⟩ dX8_findFrom_40 (fun H locs hP hS => ?_)
        refine lv_istore (lv' := [(7, .int y1), (0, .ref (ad 37)), (1, .int x1), (2, .int x2), (3, .int x3), (4, .int x4), (5, .int x5), (6, .int x6)]) hx hb dX8_findFrom_43 hl (by decide) rfl (fun ls hl => ?_)
        refine lv_iconst (v := 0) hx hb dX8_findFrom_45 (by decide) ?_
        refine lv_istore (lv' := [(8, .int 0), (7, .int y1), (0, .ref (ad 37)), (1, .int x1), (2, .int x2), (3, .int x3), (4, .int x4), (5, .int x5), (6, .int x6)]) hx hb dX8_findFrom_46 hl (by decide) rfl (fun ls hl => ?_)
        obtain ⟨g15, f16, hlp17, hf⟩ := bi2_out hf
        refine lp_X8_findFrom_48_w C0 hj hrec hR N x1 x2 x3 x4 x5 x6 y1 t g15 f16 ?_ ?_ N 0 f hlp17 H locs ls hP hS (lv_sub hl [2, 3, 4, 5, 6, 7, 8, 1, 0] rfl)
        · intro hg H locs ls hP hS hl
          have hf := itT hf hg
          refine lv_iconst (v := 1) hx hb dX8_findFrom_130 (by decide) ?_
          obtain ⟨hz, hf⟩ := rz_out hf
          obtain ⟨rfl, rfl⟩ := Prod.mk.inj (Option.some.inj hf)
          exact kr H locs ls 131 dX8_findFrom_131 hz hP hS
        · intro hg H locs ls hP hS hl
          have hf := itF hf (by rw [hg]; decide)
          have hf := itT hf hg
          refine lv_iconst (v := 0) hx hb dX8_findFrom_138 (by decide) ?_
          obtain ⟨hz, hf⟩ := rz_out hf
          obtain ⟨rfl, rfl⟩ := Prod.mk.inj (Option.some.inj hf)
          exact kr H locs ls 139 dX8_findFrom_139 hz hP hS
      · have hf := itF hf c28
        refine lv_iconst (v := 0) hx hb dX8_findFrom_31 (by decide) ?_
        obtain ⟨hz, hf⟩ := rz_out hf
        obtain ⟨rfl, rfl⟩ := Prod.mk.inj (Option.some.inj hf)
        exact kr H locs ls 32 dX8_findFrom_32 hz hP hS
  · have hf := itT hf c2
    refine lv_iload hx hb dX8_findFrom_5 (lv_at hl 5 rfl) ?_
    refine lv_iload hx hb dX8_findFrom_7 (lv_at hl 4 rfl) ?_
    refine lv_icmp_ne (tgt := 16) hx hb dX8_findFrom_9 (by decide) (fun c9 => ?_) (fun c9 => ?_)
    · have hf := itF hf c9
      refine lv_iconst (v := 0) hx hb dX8_findFrom_16 (by decide) ?_
      obtain ⟨hz, hf⟩ := rz_out hf
      obtain ⟨rfl, rfl⟩ := Prod.mk.inj (Option.some.inj hf)
      exact kr H locs ls 17 dX8_findFrom_17 hz hP hS
    · have hf := itT hf c9
      refine lv_iconst (v := 1) hx hb dX8_findFrom_12 (by decide) ?_
      refine lv_goto (tgt := 17) hx hb dX8_findFrom_13 (by decide) ?_
      obtain ⟨hz, hf⟩ := rz_out hf
      obtain ⟨rfl, rfl⟩ := Prod.mk.inj (Option.some.inj hf)
      exact kr H locs ls 17 dX8_findFrom_17 hz hP hS
set_option maxHeartbeats 4000000 in
set_option maxRecDepth 100000 in
theorem c_X8_findFrom (hj : jP ad) (l : Launch) {rec : Int32 → Int32 → Int32 → Int32 → Int32 → Int32 → mM → Option (Int32 × mM)} {F Lc : Nat} (hrec : ∀ (x1 : Int32) (x2 : Int32) (x3 : Int32) (x4 : Int32) (x5 : Int32) (x6 : Int32) (f : mM) (t : Int64) (r : Int32) (fR : mM), rec x1 x2 x3 x4 x5 x6 f = some (r, fR) → Met l yX8_findFrom wsX8_findFrom ({ frames := F, cells := 0, slots := 0, locals := Lc }) (va_Pc ([.ref (ad 37), .int x1, .int x2, .int x3, .int x4, .int x5, .int x6]) (pre D cy (wP ad cy) (xP ad sk sv) f t)) (va_Qi (fun (r2 : Int32) (u : mM × Int64) => r2 = r ∧ u = (fR, t)) (atW D (wP ad cy)) (aP ad)) 0 0 (aP ad)) (N : Nat) (x1 : Int32) (x2 : Int32) (x3 : Int32) (x4 : Int32) (x5 : Int32) (x6 : Int32) (f : mM) (t : Int64) (r : Int32) (fR : mM) (hf : q_X8_findFrom rec N x1 x2 x3 x4 x5 x6 f = some (r, fR)) : Met l yX8_findFrom wsX8_findFrom ({ frames := F + 2, cells := 0, slots := 0, locals := Lc + 46 }) (va_Pc ([.ref (ad 37), .int x1, .int x2, .int x3, .int x4, .int x5, .int x6]) (pre D cy (wP ad cy) (xP ad sk sv) f t)) (va_Qi (fun (r2 : Int32) (u : mM × Int64) => r2 = r ∧ u = (fR, t)) (atW D (wP ad cy)) (aP ad)) 0 0 (aP ad) := by
  refine Met.ofW (cc := cX8_findFrom) (maxL := 10) (ret := (some .boolean)) (by decide) rfl ?_
  intro p e s m args below meth c s₁ B hml hv
  obtain ⟨rfl, hP, hK, hX0⟩ := hv
  have hl := lv_entry ([.ref (ad 37), .int x1, .int x2, .int x3, .int x4, .int x5, .int x6]) (n := 10) (Nat.le_of_ble_eq_true rfl)
  rw [lg_entry_eq]
  generalize (lg_sl ([.ref (ad 37), .int x1, .int x2, .int x3, .int x4, .int x5, .int x6]) ++ List.replicate (10 - (lg_sl ([.ref (ad 37), .int x1, .int x2, .int x3, .int x4, .int x5, .int x6])).length) Slot.unset).toArray = ls at hl ⊢
  have hlocks := B.notSynchronized
  exact b_X8_findFrom ⟨B.exec, B.bytes, B.returns, hml, findClass_of_methodNamed B.named, atoms_spec (ws := wsX8_findFrom) B.pre, hlocks, hK, hX0⟩ hj hrec ⟨Nat.le_refl _, Nat.le_refl _⟩ N x1 x2 x3 x4 x5 x6 f t r fR hf (fun H locs ls pc hd hz hP hS => W.zret B.exec B.bytes B.returns hz (fun t2 ht hW => ⟨⟨r, (fR, t), rfl, ⟨rfl, rfl⟩, by show va_P D vwCl _ t2.heap; rw [ht]; exact hP⟩, hS.F ht⟩) hS.2.2 hd) s.heap [] ls hP va_S.rf hl
def r_X8_findFrom (N : Nat) : Nat → Int32 → Int32 → Int32 → Int32 → Int32 → Int32 → mM → Option (Int32 × mM)
  | 0 => fun _ _ _ _ _ _ _ => none
  | d + 1 => q_X8_findFrom (r_X8_findFrom N d) N
theorem c_X8_findFrom_r (hj : jP ad) (l : Launch) (N : Nat) : ∀ (d : Nat) (x1 : Int32) (x2 : Int32) (x3 : Int32) (x4 : Int32) (x5 : Int32) (x6 : Int32) (f : mM) (t : Int64) (r : Int32) (fR : mM), r_X8_findFrom N d x1 x2 x3 x4 x5 x6 f = some (r, fR) → Met l yX8_findFrom wsX8_findFrom ({ frames := 2 * d, cells := 0, slots := 0, locals := 46 * d }) (va_Pc ([.ref (ad 37), .int x1, .int x2, .int x3, .int x4, .int x5, .int x6]) (pre D cy (wP ad cy) (xP ad sk sv) f t)) (va_Qi (fun (r2 : Int32) (u : mM × Int64) => r2 = r ∧ u = (fR, t)) (atW D (wP ad cy)) (aP ad)) 0 0 (aP ad) := by
  intro d
  induction d with
  | zero =>
    intro x1 x2 x3 x4 x5 x6 f t r fR hf
    exact no_none hf
  | succ d ih =>
    intro x1 x2 x3 x4 x5 x6 f t r fR hf
    exact c_X8_findFrom hj l ih N x1 x2 x3 x4 x5 x6 f t r fR hf
def lp_X8_findFirst_3 (N : Nat) (x1 : Int32) (x2 : Int32) (x3 : Int32) : Nat → Int32 → mM → Option (Nat × Int32 × mM)
  | 0, _, _ => none
  | n + 1, x4, f => if (f 3 0) ≤ x4 then some (1, x4, f) else bi2 (r_X8_findFrom N 8 x1 x2 x3 x4 0 (1 <<< (x2 &&& 31)) f) (fun y1 f2 => if y1 = 0 then sq (x4 + 1) (fun x4_4 => lp_X8_findFirst_3 N x1 x2 x3 n x4_4 f2) else some (0, x4, f2))
theorem lp_X8_findFirst_3_s (N : Nat) (x1 : Int32) (x2 : Int32) (x3 : Int32) (n : Nat) (x4 : Int32) (f : mM) : lp_X8_findFirst_3 N x1 x2 x3 (n + 1) x4 f = (if (f 3 0) ≤ x4 then some (1, x4, f) else bi2 (r_X8_findFrom N 8 x1 x2 x3 x4 0 (1 <<< (x2 &&& 31)) f) (fun y1 f2 => if y1 = 0 then sq (x4 + 1) (fun x4_4 => lp_X8_findFirst_3 N x1 x2 x3 n x4_4 f2) else some (0, x4, f2))) := rfl
set_option maxHeartbeats 4000000 in
set_option maxRecDepth 100000 in
theorem lp_X8_findFirst_3_w (C0 : cX p s m args meth c cX8_findFirst 5 (some .int) RX8 wsX8_findFirst D cy (xP ad sk sv)) (hj : jP ad) (hR : 17 ≤ R.frames ∧ 397 ≤ R.locals) (N : Nat) (x1 : Int32) (x2 : Int32) (x3 : Int32) (t : Int64) (g0 : Nat) (r4 : Int32) (fR : mM) (kx31 : g0 = 0 → ∀ (H : Heap) (locs : List Loc) (ls : Array Slot), va_P D vwCl (wP ad cy fR t) H → va_S (aP ad) s.heap H locs → lv_has ls 5 [(4, .int r4)] → W p l e R s m args below meth c H locs 0 0 Q (F0 m 31 ls [])) (kx40 : g0 = 1 → ∀ (H : Heap) (locs : List Loc) (ls : Array Slot), va_P D vwCl (wP ad cy fR t) H → va_S (aP ad) s.heap H locs → lv_has ls 5 [] → W p l e R s m args below meth c H locs 0 0 Q (F0 m 40 ls [])) : ∀ (n : Nat) (x4 : Int32) (f : mM), lp_X8_findFirst_3 N x1 x2 x3 n x4 f = some (g0, r4, fR) → ∀ (H : Heap) (locs : List Loc) (ls : Array Slot), va_P D vwCl (wP ad cy f t) H → va_S (aP ad) s.heap H locs → lv_has ls 5 [(0, .ref (ad 37)), (1, .int x1), (2, .int x2), (3, .int x3), (4, .int x4)] → W p l e R s m args below meth c H locs 0 0 Q (F0 m 3 ls []) := by
  obtain ⟨hx, hb, hr, hml, hown, hts, hlocks, hK, hX0⟩ := id C0
  have lk15 := hts (.fieldLink RX8 15 "PlankNine$Ways" "marsh" "LPlankNine$Marsh;") (List.mem_of_getElem? (i := 1) rfl)
  have hiX8 : ∀ w ∈ u_ws RX8 TX8 3, w ∈ wsX8_findFirst := fun w h => List.mem_cons_of_mem _ (List.mem_append_left _ (List.mem_append_left _ (List.mem_append_right _ h)))
  have ln23 := nlF_2 (args := args) hX0
  have hiX2 : ∀ w ∈ u_ws RX2 TX2 12, w ∈ wsX8_findFirst := fun w h => List.mem_cons_of_mem _ (List.mem_append_left _ (List.mem_append_right _ h))
  intro n
  induction n with
  | zero =>
    intro x4 f hf
    exact no_none hf
  | succ n ih =>
    intro x4 f hf H locs ls hP hS hl
    have hf := (lp_X8_findFirst_3_s N x1 x2 x3 n x4 f).symm.trans hf
    refine lv_iload hx hb dX8_findFirst_3 (lv_at hl 4 rfl) ?_
    refine lv_aload_n hx hb dX8_findFirst_5 rfl (lv_at hl 0 rfl) ?_
    refine va_get (D := D) (ci := 8) (v := .ref (ad 3)) (C := RX8) (T := TX8) (N := 3) hx hb hts hiX8 hown hK hP 37 rfl rfl 0 (by decide) lk15 (fun _ h9 => h9) rfl dX8_findFirst_6 ?_
    refine va_getN (D := D) (ci := 2) (v := .int (f 3 0)) (C := RX2) (T := TX2) (N := 12) hx hb hts hiX2 hown hK hP 3 rfl rfl 0 (by decide) ln23 (fun _ h9 => h9) rfl dX8_findFirst_9 ?_
    refine lv_icmp_ge (tgt := 40) hx hb dX8_findFirst_12 (by decide) (fun c12 => ?_) (fun c12 => ?_)
    · have hf := itT hf c12
      have hg_0 := Option.some.inj hf
      obtain ⟨rfl, hg_1⟩ := Prod.mk.inj hg_0
      obtain ⟨rfl, rfl⟩ := Prod.mk.inj hg_1
      exact kx40 rfl H locs ls hP hS (lv_sub hl [] rfl)
    · have hf := itF hf c12
      refine lv_aload_n hx hb dX8_findFirst_15 rfl (lv_at hl 0 rfl) ?_
      refine lv_iload_n hx hb dX8_findFirst_16 rfl (lv_at hl 1 rfl) ?_
      refine lv_iload_n hx hb dX8_findFirst_17 rfl (lv_at hl 2 rfl) ?_
      refine lv_iload_n hx hb dX8_findFirst_18 rfl (lv_at hl 3 rfl) ?_
      refine lv_iload hx hb dX8_findFirst_19 (lv_at hl 4 rfl) ?_
      refine lv_iconst (v := 0) hx hb dX8_findFirst_21 (by decide) ?_
      refine lv_iconst (v := 1) hx hb dX8_findFirst_22 (by decide) ?_
      refine lv_iload_n hx hb dX8_findFirst_23 rfl (lv_at hl 2 rfl) ?_
      refine lv_ishl hx hb dX8_findFirst_24 ?_
      obtain ⟨y1, f2, hq3, hf⟩ := bi2_out hf
      refine cw_vi (As := [.int x1, .int x2, .int x3, .int x4, .int 0, .int (1 <<< (x2 &&& 31))]) (rest := []) ⟨hx, hb, hml, hown, hts⟩ xP_S hK hX0 hS hP (c_X8_findFrom_r hj l N 8 x1 x2 x3 x4 0 (1 <<< (x2 &&& 31)) f t y1 f2 hq3) (cwV 6 hts gX8_findFirst_X8_findFrom rfl rfl rfl (by decide +kernel) ⟨Nat.le_trans (Nat.le_of_ble_eq_true rfl) hR.1, Nat.le_trans (Nat.le_of_ble_eq_true rfl) hR.2⟩) (va_recv hK hP (ci := 8) (q0 := 37) rfl rfl) rfl hl.1 rfl (Nat.le_of_ble_eq_true rfl) ⟨Nat.zero_le _, Nat.zero_le _⟩ dX8_findFirst_25 (fun H locs hP hS => ?_)
      refine lv_if_eq (tgt := 34) hx hb dX8_findFirst_28 (by decide) (fun c28 => ?_) (fun c28 => ?_)
      · have hf := itT hf c28
        obtain ⟨x4_4, ex4_4, hf⟩ := sq_out hf
        refine lv_iinc (v := x4_4) (lv' := [(4, .int x4_4), (0, .ref (ad 37)), (1, .int x1), (2, .int x2), (3, .int x3)]) hx hb dX8_findFirst_34 hl (k := 4) rfl (by rw [ex4_4]; rfl) (by decide) rfl (fun ls hl => ?_)
        refine lv_goto (tgt := 3) hx hb dX8_findFirst_37 (by decide) ?_
        exact ih x4_4 f2 hf H locs ls hP hS (lv_sub hl [1, 2, 3, 4, 0] rfl)
      · have hf := itF hf c28
        have hg_0 := Option.some.inj hf
        obtain ⟨rfl, hg_1⟩ := Prod.mk.inj hg_0
        obtain ⟨rfl, rfl⟩ := Prod.mk.inj hg_1
        exact kx31 rfl H locs ls hP hS (lv_sub hl [4] rfl)
def q_X8_findFirst (N : Nat) (x1 : Int32) (x2 : Int32) (x3 : Int32) (f : mM) : Option (Int32 × mM) := bi3 (lp_X8_findFirst_3 N x1 x2 x3 N 1 f) (fun g5 y6 f7 => if g5 = 0 then some (y6, f7) else if g5 = 1 then some (0, f7) else none)
set_option maxHeartbeats 4000000 in
set_option maxRecDepth 100000 in
theorem b_X8_findFirst (C0 : cX p s m args meth c cX8_findFirst 5 (some .int) RX8 wsX8_findFirst D cy (xP ad sk sv)) (hj : jP ad) (hR : 17 ≤ R.frames ∧ 397 ≤ R.locals) (N : Nat) (x1 : Int32) (x2 : Int32) (x3 : Int32) (f : mM) (t : Int64) (r : Int32) (fR : mM) (hf : q_X8_findFirst N x1 x2 x3 f = some (r, fR)) (kr : ∀ (H : Heap) (locs : List Loc) (ls : Array Slot) (pc : Nat), decode cX8_findFirst pc = .ok (.ireturn, 1) → va_P D vwCl (wP ad cy fR t) H → va_S (aP ad) s.heap H locs → W p l e R s m args below meth c H locs 0 0 Q (F0 m pc ls [.int r])) (H : Heap) (locs : List Loc) (ls : Array Slot) (hP : va_P D vwCl (wP ad cy f t) H) (hS : va_S (aP ad) s.heap H locs) (hl : lv_has ls 5 [(0, .ref (ad 37)), (1, .int x1), (2, .int x2), (3, .int x3)]) : W p l e R s m args below meth c H locs 0 0 Q (F0 m 0 ls []) := by
  obtain ⟨hx, hb, hr, hml, hown, hts, hlocks, hK, hX0⟩ := id C0
  unfold q_X8_findFirst at hf
  refine lv_iconst (v := 1) hx hb dX8_findFirst_0 (by decide) ?_
  refine lv_istore (lv' := [(4, .int 1), (0, .ref (ad 37)), (1, .int x1), (2, .int x2), (3, .int x3)]) hx hb dX8_findFirst_1 hl (by decide) rfl (fun ls hl => ?_)
  obtain ⟨g5, y6, f7, hlp8, hf⟩ := bi3_out hf
  refine lp_X8_findFirst_3_w C0 hj hR N x1 x2 x3 t g5 y6 f7 ?_ ?_ N 1 f hlp8 H locs ls hP hS (lv_sub hl [1, 2, 3, 4, 0] rfl)
  · intro hg H locs ls hP hS hl
    have hf := itT hf hg
    refine lv_iload hx hb dX8_findFirst_31 (lv_at hl 0 rfl) ?_
    obtain ⟨rfl, rfl⟩ := Prod.mk.inj (Option.some.inj hf)
    exact kr H locs ls 33 dX8_findFirst_33 hP hS
  · intro hg H locs ls hP hS hl
    have hf := itF hf (by rw [hg]; decide)
    have hf := itT hf hg
    refine lv_iconst (v := 0) hx hb dX8_findFirst_40 (by decide) ?_
    obtain ⟨rfl, rfl⟩ := Prod.mk.inj (Option.some.inj hf)
    exact kr H locs ls 41 dX8_findFirst_41 hP hS
set_option maxHeartbeats 4000000 in
set_option maxRecDepth 100000 in
theorem c_X8_findFirst (hj : jP ad) (l : Launch) (N : Nat) (x1 : Int32) (x2 : Int32) (x3 : Int32) (f : mM) (t : Int64) (r : Int32) (fR : mM) (hf : q_X8_findFirst N x1 x2 x3 f = some (r, fR)) : Met l yX8_findFirst wsX8_findFirst ({ frames := 17, cells := 0, slots := 0, locals := 397 }) (va_Pc ([.ref (ad 37), .int x1, .int x2, .int x3]) (pre D cy (wP ad cy) (xP ad sk sv) f t)) (va_Qi (fun (r2 : Int32) (u : mM × Int64) => r2 = r ∧ u = (fR, t)) (atW D (wP ad cy)) (aP ad)) 0 0 (aP ad) := by
  refine Met.ofW (cc := cX8_findFirst) (maxL := 5) (ret := (some .int)) (by decide) rfl ?_
  intro p e s m args below meth c s₁ B hml hv
  obtain ⟨rfl, hP, hK, hX0⟩ := hv
  have hl := lv_entry ([.ref (ad 37), .int x1, .int x2, .int x3]) (n := 5) (Nat.le_of_ble_eq_true rfl)
  rw [lg_entry_eq]
  generalize (lg_sl ([.ref (ad 37), .int x1, .int x2, .int x3]) ++ List.replicate (5 - (lg_sl ([.ref (ad 37), .int x1, .int x2, .int x3])).length) Slot.unset).toArray = ls at hl ⊢
  have hlocks := B.notSynchronized
  exact b_X8_findFirst ⟨B.exec, B.bytes, B.returns, hml, findClass_of_methodNamed B.named, atoms_spec (ws := wsX8_findFirst) B.pre, hlocks, hK, hX0⟩ hj ⟨Nat.le_refl _, Nat.le_refl _⟩ N x1 x2 x3 f t r fR hf (fun H locs ls pc hd hP hS => W.iret B.exec B.bytes B.returns (fun t2 ht hW => ⟨⟨r, (fR, t), rfl, ⟨rfl, rfl⟩, by show va_P D vwCl _ t2.heap; rw [ht]; exact hP⟩, hS.F ht⟩) hS.2.2 hd) s.heap [] ls hP va_S.rf hl
def q_X8_plankOnWay (x1 : Int32) (f : mM) : Option (Int32) := if x1 < 0 then some (-5) else if 5 ≤ x1 then some (-5) else gi x1 5 (some (f 38 (Int32.toNatClampNeg x1)))
set_option maxHeartbeats 4000000 in
set_option maxRecDepth 100000 in
theorem b_X8_plankOnWay (C0 : cX p s m args meth c cX8_plankOnWay 2 (some .int) RX8 wsX8_plankOnWay D cy (xP ad sk sv)) (hj : jP ad) (hR : 0 ≤ R.frames ∧ 0 ≤ R.locals) (x1 : Int32) (f : mM) (t : Int64) (r : Int32) (hf : q_X8_plankOnWay x1 f = some r) (kr : ∀ (H : Heap) (locs : List Loc) (ls : Array Slot) (pc : Nat), decode cX8_plankOnWay pc = .ok (.ireturn, 1) → va_P D vwCl (wP ad cy f t) H → va_S (aP ad) s.heap H locs → W p l e R s m args below meth c H locs 0 0 Q (F0 m pc ls [.int r])) (H : Heap) (locs : List Loc) (ls : Array Slot) (hP : va_P D vwCl (wP ad cy f t) H) (hS : va_S (aP ad) s.heap H locs) (hl : lv_has ls 2 [(0, .ref (ad 37)), (1, .int x1)]) : W p l e R s m args below meth c H locs 0 0 Q (F0 m 0 ls []) := by
  obtain ⟨hx, hb, hr, hml, hown, hts, hlocks, hK, hX0⟩ := id C0
  have lk9 := hts (.fieldLink RX8 9 "PlankNine$Ways" "found" "[I") (List.mem_of_getElem? (i := 1) rfl)
  have hiX8 : ∀ w ∈ u_ws RX8 TX8 3, w ∈ wsX8_plankOnWay := fun w h => List.mem_cons_of_mem _ (List.mem_append_right _ h)
  unfold q_X8_plankOnWay at hf
  refine lv_iload_n hx hb dX8_plankOnWay_0 rfl (lv_at hl 1 rfl) ?_
  refine lv_if_lt (tgt := 18) hx hb dX8_plankOnWay_1 (by decide) (fun c1 => ?_) (fun c1 => ?_)
  · have hf := itT hf c1
    refine lv_bipush (v := (-5)) hx hb dX8_plankOnWay_18 (by decide) ?_
    obtain rfl := Option.some.inj hf
    exact kr H locs ls 20 dX8_plankOnWay_20 hP hS
  · have hf := itF hf c1
    refine lv_iload_n hx hb dX8_plankOnWay_4 rfl (lv_at hl 1 rfl) ?_
    refine lv_iconst (v := 5) hx hb dX8_plankOnWay_5 (by decide) ?_
    refine lv_icmp_ge (tgt := 18) hx hb dX8_plankOnWay_6 (by decide) (fun c6 => ?_) (fun c6 => ?_)
    · have hf := itT hf c6
      refine lv_bipush (v := (-5)) hx hb dX8_plankOnWay_18 (by decide) ?_
      obtain rfl := Option.some.inj hf
      exact kr H locs ls 20 dX8_plankOnWay_20 hP hS
    · have hf := itF hf c6
      refine lv_aload_n hx hb dX8_plankOnWay_9 rfl (lv_at hl 0 rfl) ?_
      refine va_get (D := D) (ci := 8) (v := .ref (ad 38)) (C := RX8) (T := TX8) (N := 3) hx hb hts hiX8 hown hK hP 37 rfl rfl 2 (by decide) lk9 (fun _ h9 => h9) rfl dX8_plankOnWay_10 ?_
      refine lv_iload_n hx hb dX8_plankOnWay_13 rfl (lv_at hl 1 rfl) ?_
      obtain ⟨hin1, hf⟩ := gi_out hf
      refine va_iald hx hb hK hP 38 1 rfl rfl hin1 dX8_plankOnWay_14 ?_
      refine lv_goto (tgt := 20) hx hb dX8_plankOnWay_15 (by decide) ?_
      obtain rfl := Option.some.inj hf
      exact kr H locs ls 20 dX8_plankOnWay_20 hP hS
set_option maxHeartbeats 4000000 in
set_option maxRecDepth 100000 in
theorem c_X8_plankOnWay (hj : jP ad) (l : Launch) (x1 : Int32) (f : mM) (t : Int64) (r : Int32) (hf : q_X8_plankOnWay x1 f = some r) : Met l yX8_plankOnWay wsX8_plankOnWay ({ frames := 0, cells := 0, slots := 0, locals := 0 }) (va_Pc ([.ref (ad 37), .int x1]) (pre D cy (wP ad cy) (xP ad sk sv) f t)) (va_Qi (fun (r2 : Int32) (u : mM × Int64) => r2 = r ∧ u = (f, t)) (atW D (wP ad cy)) (aP ad)) 0 0 (aP ad) := by
  refine Met.ofW (cc := cX8_plankOnWay) (maxL := 2) (ret := (some .int)) (by decide) rfl ?_
  intro p e s m args below meth c s₁ B hml hv
  obtain ⟨rfl, hP, hK, hX0⟩ := hv
  have hl := lv_entry ([.ref (ad 37), .int x1]) (n := 2) (Nat.le_of_ble_eq_true rfl)
  rw [lg_entry_eq]
  generalize (lg_sl ([.ref (ad 37), .int x1]) ++ List.replicate (2 - (lg_sl ([.ref (ad 37), .int x1])).length) Slot.unset).toArray = ls at hl ⊢
  have hlocks := B.notSynchronized
  exact b_X8_plankOnWay ⟨B.exec, B.bytes, B.returns, hml, findClass_of_methodNamed B.named, atoms_spec (ws := wsX8_plankOnWay) B.pre, hlocks, hK, hX0⟩ hj ⟨Nat.le_refl _, Nat.le_refl _⟩ x1 f t r hf (fun H locs ls pc hd hP hS => W.iret B.exec B.bytes B.returns (fun t2 ht hW => ⟨⟨r, (f, t), rfl, ⟨rfl, rfl⟩, by show va_P D vwCl _ t2.heap; rw [ht]; exact hP⟩, hS.F ht⟩) hS.2.2 hd) s.heap [] ls hP va_S.rf hl
def lp_X8_walkFound_5 (N : Nat) (x1 : Int32) (x2 : Int32) : Nat → Int32 → Int32 → mM → Option (Int32 × mM)
  | 0, _, _, _ => none
  | n + 1, x3, x4, f => if x2 ≤ x4 then some (x3, f) else if 5 ≤ x4 then some (x3, f) else gi x4 5 (bi (q_X2_takes x1 x4 f) (fun y2 => bi2 (q_X3_take (f 38 (Int32.toNatClampNeg x4)) y2 x1 f) (fun y4 f5 => if y4 = 0 then sq (x4 + 1) (fun x4_7 => lp_X8_walkFound_5 N x1 x2 n x3 x4_7 f5) else sq (x3 + 1) (fun x3_8 => sq (x4 + 1) (fun x4_9 => lp_X8_walkFound_5 N x1 x2 n x3_8 x4_9 f5)))))
theorem lp_X8_walkFound_5_s (N : Nat) (x1 : Int32) (x2 : Int32) (n : Nat) (x3 : Int32) (x4 : Int32) (f : mM) : lp_X8_walkFound_5 N x1 x2 (n + 1) x3 x4 f = (if x2 ≤ x4 then some (x3, f) else if 5 ≤ x4 then some (x3, f) else gi x4 5 (bi (q_X2_takes x1 x4 f) (fun y2 => bi2 (q_X3_take (f 38 (Int32.toNatClampNeg x4)) y2 x1 f) (fun y4 f5 => if y4 = 0 then sq (x4 + 1) (fun x4_7 => lp_X8_walkFound_5 N x1 x2 n x3 x4_7 f5) else sq (x3 + 1) (fun x3_8 => sq (x4 + 1) (fun x4_9 => lp_X8_walkFound_5 N x1 x2 n x3_8 x4_9 f5)))))) := rfl
set_option maxHeartbeats 4000000 in
set_option maxRecDepth 100000 in
theorem lp_X8_walkFound_5_w (C0 : cX p s m args meth c cX8_walkFound 5 (some .int) RX8 wsX8_walkFound D cy (xP ad sk sv)) (hj : jP ad) (hR : 1 ≤ R.frames ∧ 23 ≤ R.locals) (N : Nat) (x1 : Int32) (x2 : Int32) (t : Int64) (r3 : Int32) (fR : mM) (kx54 : ∀ (H : Heap) (locs : List Loc) (ls : Array Slot), va_P D vwCl (wP ad cy fR t) H → va_S (aP ad) s.heap H locs → lv_has ls 5 [(3, .int r3)] → W p l e R s m args below meth c H locs 0 0 Q (F0 m 54 ls [])) : ∀ (n : Nat) (x3 : Int32) (x4 : Int32) (f : mM), lp_X8_walkFound_5 N x1 x2 n x3 x4 f = some (r3, fR) → ∀ (H : Heap) (locs : List Loc) (ls : Array Slot), va_P D vwCl (wP ad cy f t) H → va_S (aP ad) s.heap H locs → lv_has ls 5 [(0, .ref (ad 37)), (1, .int x1), (2, .int x2), (3, .int x3), (4, .int x4)] → W p l e R s m args below meth c H locs 0 0 Q (F0 m 5 ls []) := by
  obtain ⟨hx, hb, hr, hml, hown, hts, hlocks, hK, hX0⟩ := id C0
  have lk19 := hts (.fieldLink RX8 19 "PlankNine$Ways" "now" "LPlankNine$Now;") (List.mem_of_getElem? (i := 1) rfl)
  have hiX8 : ∀ w ∈ u_ws RX8 TX8 3, w ∈ wsX8_walkFound := fun w h => List.mem_cons_of_mem _ (List.mem_append_left _ (List.mem_append_left _ (List.mem_append_right _ h)))
  have lk9 := hts (.fieldLink RX8 9 "PlankNine$Ways" "found" "[I") (List.mem_of_getElem? (i := 2) rfl)
  have lk15 := hts (.fieldLink RX8 15 "PlankNine$Ways" "marsh" "LPlankNine$Marsh;") (List.mem_of_getElem? (i := 3) rfl)
  intro n
  induction n with
  | zero =>
    intro x3 x4 f hf
    exact no_none hf
  | succ n ih =>
    intro x3 x4 f hf H locs ls hP hS hl
    have hf := (lp_X8_walkFound_5_s N x1 x2 n x3 x4 f).symm.trans hf
    refine lv_iload hx hb dX8_walkFound_5 (lv_at hl 4 rfl) ?_
    refine lv_iload_n hx hb dX8_walkFound_7 rfl (lv_at hl 2 rfl) ?_
    refine lv_icmp_ge (tgt := 54) hx hb dX8_walkFound_8 (by decide) (fun c8 => ?_) (fun c8 => ?_)
    · have hf := itT hf c8
      have hg_0 := Option.some.inj hf
      obtain ⟨rfl, rfl⟩ := Prod.mk.inj hg_0
      exact kx54 H locs ls hP hS (lv_sub hl [3] rfl)
    · have hf := itF hf c8
      refine lv_iload hx hb dX8_walkFound_11 (lv_at hl 4 rfl) ?_
      refine lv_iconst (v := 5) hx hb dX8_walkFound_13 (by decide) ?_
      refine lv_icmp_ge (tgt := 54) hx hb dX8_walkFound_14 (by decide) (fun c14 => ?_) (fun c14 => ?_)
      · have hf := itT hf c14
        have hg_0 := Option.some.inj hf
        obtain ⟨rfl, rfl⟩ := Prod.mk.inj hg_0
        exact kx54 H locs ls hP hS (lv_sub hl [3] rfl)
      · have hf := itF hf c14
        refine lv_aload_n hx hb dX8_walkFound_17 rfl (lv_at hl 0 rfl) ?_
        refine va_get (D := D) (ci := 8) (v := .ref (ad 23)) (C := RX8) (T := TX8) (N := 3) hx hb hts hiX8 hown hK hP 37 rfl rfl 1 (by decide) lk19 (fun _ h9 => h9) rfl dX8_walkFound_18 ?_
        refine lv_aload_n hx hb dX8_walkFound_21 rfl (lv_at hl 0 rfl) ?_
        refine va_get (D := D) (ci := 8) (v := .ref (ad 38)) (C := RX8) (T := TX8) (N := 3) hx hb hts hiX8 hown hK hP 37 rfl rfl 2 (by decide) lk9 (fun _ h9 => h9) rfl dX8_walkFound_22 ?_
        refine lv_iload hx hb dX8_walkFound_25 (lv_at hl 4 rfl) ?_
        obtain ⟨hin1, hf⟩ := gi_out hf
        refine va_iald hx hb hK hP 38 1 rfl rfl hin1 dX8_walkFound_27 ?_
        refine lv_aload_n hx hb dX8_walkFound_28 rfl (lv_at hl 0 rfl) ?_
        refine va_get (D := D) (ci := 8) (v := .ref (ad 3)) (C := RX8) (T := TX8) (N := 3) hx hb hts hiX8 hown hK hP 37 rfl rfl 0 (by decide) lk15 (fun _ h9 => h9) rfl dX8_walkFound_29 ?_
        refine lv_iload_n hx hb dX8_walkFound_32 rfl (lv_at hl 1 rfl) ?_
        refine lv_iload hx hb dX8_walkFound_33 (lv_at hl 4 rfl) ?_
        obtain ⟨y2, hq3, hf⟩ := bi_out hf
        refine cw_vi (As := [.int x1, .int x4]) (rest := [.int (f 38 (Int32.toNatClampNeg x4)), .ref (ad 23)]) ⟨hx, hb, hml, hown, hts⟩ xP_S hK hX0 hS hP (c_X2_takes hj l x1 x4 f t y2 hq3) (cwV 2 hts gX8_walkFound_X2_takes rfl rfl rfl (by decide +kernel) ⟨Nat.le_trans (Nat.le_of_ble_eq_true rfl) hR.1, Nat.le_trans (Nat.le_of_ble_eq_true rfl) hR.2⟩) (va_recv hK hP (ci := 2) (q0 := 3) rfl rfl) rfl hl.1 rfl (Nat.le_of_ble_eq_true rfl) ⟨Nat.zero_le _, Nat.zero_le _⟩ dX8_walkFound_35 (fun H locs hP hS => ?_)
        refine lv_iload_n hx hb dX8_walkFound_38 rfl (lv_at hl 1 rfl) ?_
        obtain ⟨y4, f5, hq6, hf⟩ := bi2_out hf
        refine cw_vi (As := [.int (f 38 (Int32.toNatClampNeg x4)), .int y2, .int x1]) (rest := []) ⟨hx, hb, hml, hown, hts⟩ xP_S hK hX0 hS hP (c_X3_take hj l (f 38 (Int32.toNatClampNeg x4)) y2 x1 f t y4 f5 hq6) (cwV 3 hts gX8_walkFound_X3_take rfl rfl rfl (by decide +kernel) ⟨Nat.le_trans (Nat.le_of_ble_eq_true rfl) hR.1, Nat.le_trans (Nat.le_of_ble_eq_true rfl) hR.2⟩) (va_recv hK hP (ci := 3) (q0 := 23) rfl rfl) rfl hl.1 rfl (Nat.le_of_ble_eq_true rfl) ⟨Nat.zero_le _, Nat.zero_le _⟩ dX8_walkFound_39 (fun H locs hP hS => ?_)
        refine lv_if_eq (tgt := 48) hx hb dX8_walkFound_42 (by decide) (fun c42 => ?_) (fun c42 => ?_)
        · have hf := itT hf c42
          obtain ⟨x4_7, ex4_7, hf⟩ := sq_out hf
          refine lv_iinc (v := x4_7) (lv' := [(4, .int x4_7), (0, .ref (ad 37)), (1, .int x1), (2, .int x2), (3, .int x3)]) hx hb dX8_walkFound_48 hl (k := 4) rfl (by rw [ex4_7]; rfl) (by decide) rfl (fun ls hl => ?_)
          refine lv_goto (tgt := 5) hx hb dX8_walkFound_51 (by decide) ?_
          exact ih x3 x4_7 f5 hf H locs ls hP hS (lv_sub hl [1, 2, 3, 4, 0] rfl)
        · have hf := itF hf c42
          obtain ⟨x3_8, ex3_8, hf⟩ := sq_out hf
          refine lv_iinc (v := x3_8) (lv' := [(3, .int x3_8), (0, .ref (ad 37)), (1, .int x1), (2, .int x2), (4, .int x4)]) hx hb dX8_walkFound_45 hl (k := 3) rfl (by rw [ex3_8]; rfl) (by decide) rfl (fun ls hl => ?_)
          obtain ⟨x4_9, ex4_9, hf⟩ := sq_out hf
          refine lv_iinc (v := x4_9) (lv' := [(4, .int x4_9), (3, .int x3_8), (0, .ref (ad 37)), (1, .int x1), (2, .int x2)]) hx hb dX8_walkFound_48 hl (k := 4) rfl (by rw [ex4_9]; rfl) (by decide) rfl (fun ls hl => ?_)
          refine lv_goto (tgt := 5) hx hb dX8_walkFound_51 (by decide) ?_
          exact ih x3_8 x4_9 f5 hf H locs ls hP hS (lv_sub hl [2, 3, 4, 1, 0] rfl)
def q_X8_walkFound (N : Nat) (x1 : Int32) (x2 : Int32) (f : mM) : Option (Int32 × mM) := bi2 (lp_X8_walkFound_5 N x1 x2 N 0 0 f) (fun y10 f11 => some (y10, f11))
set_option maxHeartbeats 4000000 in
set_option maxRecDepth 100000 in
theorem b_X8_walkFound (C0 : cX p s m args meth c cX8_walkFound 5 (some .int) RX8 wsX8_walkFound D cy (xP ad sk sv)) (hj : jP ad) (hR : 1 ≤ R.frames ∧ 23 ≤ R.locals) (N : Nat) (x1 : Int32) (x2 : Int32) (f : mM) (t : Int64) (r : Int32) (fR : mM) (hf : q_X8_walkFound N x1 x2 f = some (r, fR)) (kr : ∀ (H : Heap) (locs : List Loc) (ls : Array Slot) (pc : Nat), decode cX8_walkFound pc = .ok (.ireturn, 1) → va_P D vwCl (wP ad cy fR t) H → va_S (aP ad) s.heap H locs → W p l e R s m args below meth c H locs 0 0 Q (F0 m pc ls [.int r])) (H : Heap) (locs : List Loc) (ls : Array Slot) (hP : va_P D vwCl (wP ad cy f t) H) (hS : va_S (aP ad) s.heap H locs) (hl : lv_has ls 5 [(0, .ref (ad 37)), (1, .int x1), (2, .int x2)]) : W p l e R s m args below meth c H locs 0 0 Q (F0 m 0 ls []) := by
  obtain ⟨hx, hb, hr, hml, hown, hts, hlocks, hK, hX0⟩ := id C0
  unfold q_X8_walkFound at hf
  refine lv_iconst (v := 0) hx hb dX8_walkFound_0 (by decide) ?_
  refine lv_istore_n (lv' := [(3, .int 0), (0, .ref (ad 37)), (1, .int x1), (2, .int x2)]) hx hb dX8_walkFound_1 rfl hl (by decide) rfl (fun ls hl => ?_)
  refine lv_iconst (v := 0) hx hb dX8_walkFound_2 (by decide) ?_
  refine lv_istore (lv' := [(4, .int 0), (3, .int 0), (0, .ref (ad 37)), (1, .int x1), (2, .int x2)]) hx hb dX8_walkFound_3 hl (by decide) rfl (fun ls hl => ?_)
  obtain ⟨y10, f11, hlp12, hf⟩ := bi2_out hf
  refine lp_X8_walkFound_5_w C0 hj hR N x1 x2 t y10 f11 ?_ N 0 0 f hlp12 H locs ls hP hS (lv_sub hl [2, 3, 4, 1, 0] rfl)
  intro H locs ls hP hS hl
  refine lv_iload_n hx hb dX8_walkFound_54 rfl (lv_at hl 0 rfl) ?_
  obtain ⟨rfl, rfl⟩ := Prod.mk.inj (Option.some.inj hf)
  exact kr H locs ls 55 dX8_walkFound_55 hP hS
set_option maxHeartbeats 4000000 in
set_option maxRecDepth 100000 in
theorem c_X8_walkFound (hj : jP ad) (l : Launch) (N : Nat) (x1 : Int32) (x2 : Int32) (f : mM) (t : Int64) (r : Int32) (fR : mM) (hf : q_X8_walkFound N x1 x2 f = some (r, fR)) : Met l yX8_walkFound wsX8_walkFound ({ frames := 1, cells := 0, slots := 0, locals := 23 }) (va_Pc ([.ref (ad 37), .int x1, .int x2]) (pre D cy (wP ad cy) (xP ad sk sv) f t)) (va_Qi (fun (r2 : Int32) (u : mM × Int64) => r2 = r ∧ u = (fR, t)) (atW D (wP ad cy)) (aP ad)) 0 0 (aP ad) := by
  refine Met.ofW (cc := cX8_walkFound) (maxL := 5) (ret := (some .int)) (by decide) rfl ?_
  intro p e s m args below meth c s₁ B hml hv
  obtain ⟨rfl, hP, hK, hX0⟩ := hv
  have hl := lv_entry ([.ref (ad 37), .int x1, .int x2]) (n := 5) (Nat.le_of_ble_eq_true rfl)
  rw [lg_entry_eq]
  generalize (lg_sl ([.ref (ad 37), .int x1, .int x2]) ++ List.replicate (5 - (lg_sl ([.ref (ad 37), .int x1, .int x2])).length) Slot.unset).toArray = ls at hl ⊢
  have hlocks := B.notSynchronized
  exact b_X8_walkFound ⟨B.exec, B.bytes, B.returns, hml, findClass_of_methodNamed B.named, atoms_spec (ws := wsX8_walkFound) B.pre, hlocks, hK, hX0⟩ hj ⟨Nat.le_refl _, Nat.le_refl _⟩ N x1 x2 f t r fR hf (fun H locs ls pc hd hP hS => W.iret B.exec B.bytes B.returns (fun t2 ht hW => ⟨⟨r, (fR, t), rfl, ⟨rfl, rfl⟩, by show va_P D vwCl _ t2.heap; rw [ht]; exact hP⟩, hS.F ht⟩) hS.2.2 hd) s.heap [] ls hP va_S.rf hl
def lp_X8_runErrands_4 (N : Nat)  : Nat → Int32 → Int32 → mM → Option (Int32 × mM)
  | 0, _, _, _ => none
  | n + 1, x1, x2, f => if (f 3 3) ≤ x2 then some (x1, f) else gi x2 3 (sq (f 9 (Int32.toNatClampNeg x2)) (fun x3_2 => gi x2 3 (gi x2 3 (bi2 (q_X8_findFirst N x3_2 (f 10 (Int32.toNatClampNeg x2)) (f 11 (Int32.toNatClampNeg x2)) f) (fun y5 f6 => if y5 = 0 then sq (x1 + 1) (fun x1_12 => sq (x2 + 1) (fun x2_13 => lp_X8_runErrands_4 N n x1_12 x2_13 f6)) else bi2 (q_X8_walkFound N x3_2 y5 f6) (fun y8 f9 => sq (x2 + 1) (fun x2_11 => lp_X8_runErrands_4 N n x1 x2_11 f9)))))))
theorem lp_X8_runErrands_4_s (N : Nat)  (n : Nat) (x1 : Int32) (x2 : Int32) (f : mM) : lp_X8_runErrands_4 N (n + 1) x1 x2 f = (if (f 3 3) ≤ x2 then some (x1, f) else gi x2 3 (sq (f 9 (Int32.toNatClampNeg x2)) (fun x3_2 => gi x2 3 (gi x2 3 (bi2 (q_X8_findFirst N x3_2 (f 10 (Int32.toNatClampNeg x2)) (f 11 (Int32.toNatClampNeg x2)) f) (fun y5 f6 => if y5 = 0 then sq (x1 + 1) (fun x1_12 => sq (x2 + 1) (fun x2_13 => lp_X8_runErrands_4 N n x1_12 x2_13 f6)) else bi2 (q_X8_walkFound N x3_2 y5 f6) (fun y8 f9 => sq (x2 + 1) (fun x2_11 => lp_X8_runErrands_4 N n x1 x2_11 f9)))))))) := rfl
set_option maxHeartbeats 4000000 in
set_option maxRecDepth 100000 in
theorem lp_X8_runErrands_4_w (C0 : cX p s m args meth c cX8_runErrands 5 (some .int) RX8 wsX8_runErrands D cy (xP ad sk sv)) (hj : jP ad) (hR : 18 ≤ R.frames ∧ 421 ≤ R.locals) (N : Nat)  (t : Int64) (r1 : Int32) (fR : mM) (kx75 : ∀ (H : Heap) (locs : List Loc) (ls : Array Slot), va_P D vwCl (wP ad cy fR t) H → va_S (aP ad) s.heap H locs → lv_has ls 5 [(1, .int r1)] → W p l e R s m args below meth c H locs 0 0 Q (F0 m 75 ls [])) : ∀ (n : Nat) (x1 : Int32) (x2 : Int32) (f : mM), lp_X8_runErrands_4 N n x1 x2 f = some (r1, fR) → ∀ (H : Heap) (locs : List Loc) (ls : Array Slot), va_P D vwCl (wP ad cy f t) H → va_S (aP ad) s.heap H locs → lv_has ls 5 [(0, .ref (ad 37)), (1, .int x1), (2, .int x2)] → W p l e R s m args below meth c H locs 0 0 Q (F0 m 4 ls []) := by
  obtain ⟨hx, hb, hr, hml, hown, hts, hlocks, hK, hX0⟩ := id C0
  have lk15 := hts (.fieldLink RX8 15 "PlankNine$Ways" "marsh" "LPlankNine$Marsh;") (List.mem_of_getElem? (i := 1) rfl)
  have hiX8 : ∀ w ∈ u_ws RX8 TX8 3, w ∈ wsX8_runErrands := fun w h => List.mem_cons_of_mem _ (List.mem_append_left _ (List.mem_append_left _ (List.mem_append_right _ h)))
  have ln54 := nlF_18 (args := args) hX0
  have hiX2 : ∀ w ∈ u_ws RX2 TX2 12, w ∈ wsX8_runErrands := fun w h => List.mem_cons_of_mem _ (List.mem_append_left _ (List.mem_append_right _ h))
  have ln57 := nlF_31 (args := args) hX0
  have ln60 := nlF_34 (args := args) hX0
  have ln63 := nlF_37 (args := args) hX0
  intro n
  induction n with
  | zero =>
    intro x1 x2 f hf
    exact no_none hf
  | succ n ih =>
    intro x1 x2 f hf H locs ls hP hS hl
    have hf := (lp_X8_runErrands_4_s N n x1 x2 f).symm.trans hf
    refine lv_iload_n hx hb dX8_runErrands_4 rfl (lv_at hl 2 rfl) ?_
    refine lv_aload_n hx hb dX8_runErrands_5 rfl (lv_at hl 0 rfl) ?_
    refine va_get (D := D) (ci := 8) (v := .ref (ad 3)) (C := RX8) (T := TX8) (N := 3) hx hb hts hiX8 hown hK hP 37 rfl rfl 0 (by decide) lk15 (fun _ h9 => h9) rfl dX8_runErrands_6 ?_
    refine va_getN (D := D) (ci := 2) (v := .int (f 3 3)) (C := RX2) (T := TX2) (N := 12) hx hb hts hiX2 hown hK hP 3 rfl rfl 3 (by decide) ln54 (fun _ h9 => h9) rfl dX8_runErrands_9 ?_
    refine lv_icmp_ge (tgt := 75) hx hb dX8_runErrands_12 (by decide) (fun c12 => ?_) (fun c12 => ?_)
    · have hf := itT hf c12
      have hg_0 := Option.some.inj hf
      obtain ⟨rfl, rfl⟩ := Prod.mk.inj hg_0
      exact kx75 H locs ls hP hS (lv_sub hl [1] rfl)
    · have hf := itF hf c12
      refine lv_aload_n hx hb dX8_runErrands_15 rfl (lv_at hl 0 rfl) ?_
      refine va_get (D := D) (ci := 8) (v := .ref (ad 3)) (C := RX8) (T := TX8) (N := 3) hx hb hts hiX8 hown hK hP 37 rfl rfl 0 (by decide) lk15 (fun _ h9 => h9) rfl dX8_runErrands_16 ?_
      refine va_getN (D := D) (ci := 2) (v := .ref (ad 9)) (C := RX2) (T := TX2) (N := 12) hx hb hts hiX2 hown hK hP 3 rfl rfl 9 (by decide) ln57 (fun _ h9 => h9) rfl dX8_runErrands_19 ?_
      refine lv_iload_n hx hb dX8_runErrands_22 rfl (lv_at hl 2 rfl) ?_
      obtain ⟨hin1, hf⟩ := gi_out hf
      refine va_iald hx hb hK hP 9 1 rfl rfl hin1 dX8_runErrands_23 ?_
      obtain ⟨x3_2, ex3_2, hf⟩ := sq_out hf
      refine lv_nmi ex3_2 ?_
      refine lv_istore_n (lv' := [(3, .int x3_2), (0, .ref (ad 37)), (1, .int x1), (2, .int x2)]) hx hb dX8_runErrands_24 rfl hl (by decide) rfl (fun ls hl => ?_)
      refine lv_aload_n hx hb dX8_runErrands_25 rfl (lv_at hl 1 rfl) ?_
      refine lv_iload_n hx hb dX8_runErrands_26 rfl (lv_at hl 0 rfl) ?_
      refine lv_aload_n hx hb dX8_runErrands_27 rfl (lv_at hl 1 rfl) ?_
      refine va_get (D := D) (ci := 8) (v := .ref (ad 3)) (C := RX8) (T := TX8) (N := 3) hx hb hts hiX8 hown hK hP 37 rfl rfl 0 (by decide) lk15 (fun _ h9 => h9) rfl dX8_runErrands_28 ?_
      refine va_getN (D := D) (ci := 2) (v := .ref (ad 10)) (C := RX2) (T := TX2) (N := 12) hx hb hts hiX2 hown hK hP 3 rfl rfl 10 (by decide) ln60 (fun _ h9 => h9) rfl dX8_runErrands_31 ?_
      refine lv_iload_n hx hb dX8_runErrands_34 rfl (lv_at hl 3 rfl) ?_
      obtain ⟨hin3, hf⟩ := gi_out hf
      refine va_iald hx hb hK hP 10 1 rfl rfl hin3 dX8_runErrands_35 ?_
      refine lv_aload_n hx hb dX8_runErrands_36 rfl (lv_at hl 1 rfl) ?_
      refine va_get (D := D) (ci := 8) (v := .ref (ad 3)) (C := RX8) (T := TX8) (N := 3) hx hb hts hiX8 hown hK hP 37 rfl rfl 0 (by decide) lk15 (fun _ h9 => h9) rfl dX8_runErrands_37 ?_
      refine va_getN (D := D) (ci := 2) (v := .ref (ad 11)) (C := RX2) (T := TX2) (N := 12) hx hb hts hiX2 hown hK hP 3 rfl rfl 11 (by decide) ln63 (fun _ h9 => h9) rfl dX8_runErrands_40 ?_
      refine lv_iload_n hx hb dX8_runErrands_43 rfl (lv_at hl 3 rfl) ?_
      obtain ⟨hin4, hf⟩ := gi_out hf
      refine va_iald hx hb hK hP 11 1 rfl rfl hin4 dX8_runErrands_44 ?_
      obtain ⟨y5, f6, hq7, hf⟩ := bi2_out hf
      refine cw_vi (As := [.int x3_2, .int (f 10 (Int32.toNatClampNeg x2)), .int (f 11 (Int32.toNatClampNeg x2))]) (rest := []) ⟨hx, hb, hml, hown, hts⟩ xP_S hK hX0 hS hP (c_X8_findFirst hj l N x3_2 (f 10 (Int32.toNatClampNeg x2)) (f 11 (Int32.toNatClampNeg x2)) f t y5 f6 hq7) (cwV 3 hts gX8_runErrands_X8_findFirst rfl rfl rfl (by decide +kernel) ⟨Nat.le_trans (Nat.le_of_ble_eq_true rfl) hR.1, Nat.le_trans (Nat.le_of_ble_eq_true rfl) hR.2⟩) (va_recv hK hP (ci := 8) (q0 := 37) rfl rfl) rfl hl.1 rfl (Nat.le_of_ble_eq_true rfl) ⟨Nat.zero_le _, Nat.zero_le _⟩ dX8_runErrands_45 (fun H locs hP hS => ?_)
      refine lv_istore (lv' := [(4, .int y5), (3, .int x3_2), (0, .ref (ad 37)), (1, .int x1), (2, .int x2)]) hx hb dX8_runErrands_48 hl (by decide) rfl (fun ls hl => ?_)
      refine lv_iload hx hb dX8_runErrands_50 (lv_at hl 0 rfl) ?_
      refine lv_if_ne (tgt := 61) hx hb dX8_runErrands_52 (by decide) (fun c52 => ?_) (fun c52 => ?_)
      · have hf := itF hf c52
        refine lv_aload_n hx hb dX8_runErrands_61 rfl (lv_at hl 2 rfl) ?_
        refine lv_iload_n hx hb dX8_runErrands_62 rfl (lv_at hl 1 rfl) ?_
        refine lv_iload hx hb dX8_runErrands_63 (lv_at hl 0 rfl) ?_
        obtain ⟨y8, f9, hq10, hf⟩ := bi2_out hf
        refine cw_vi (As := [.int x3_2, .int y5]) (rest := []) ⟨hx, hb, hml, hown, hts⟩ xP_S hK hX0 hS hP (c_X8_walkFound hj l N x3_2 y5 f6 t y8 f9 hq10) (cwV 2 hts gX8_runErrands_X8_walkFound rfl rfl rfl (by decide +kernel) ⟨Nat.le_trans (Nat.le_of_ble_eq_true rfl) hR.1, Nat.le_trans (Nat.le_of_ble_eq_true rfl) hR.2⟩) (va_recv hK hP (ci := 8) (q0 := 37) rfl rfl) rfl hl.1 rfl (Nat.le_of_ble_eq_true rfl) ⟨Nat.zero_le _, Nat.zero_le _⟩ dX8_runErrands_65 (fun H locs hP hS => ?_)
        refine lv_pop hx hb dX8_runErrands_68 rfl ?_
        obtain ⟨x2_11, ex2_11, hf⟩ := sq_out hf
        refine lv_iinc (v := x2_11) (lv' := [(2, .int x2_11), (4, .int y5), (3, .int x3_2), (0, .ref (ad 37)), (1, .int x1)]) hx hb dX8_runErrands_69 hl (k := 4) rfl (by rw [ex2_11]; rfl) (by decide) rfl (fun ls hl => ?_)
        refine lv_goto (tgt := 4) hx hb dX8_runErrands_72 (by decide) ?_
        exact ih x1 x2_11 f9 hf H locs ls hP hS (lv_sub hl [3, 4, 0] rfl)
      · have hf := itT hf c52
        obtain ⟨x1_12, ex1_12, hf⟩ := sq_out hf
        refine lv_iinc (v := x1_12) (lv' := [(1, .int x1_12), (4, .int y5), (3, .int x3_2), (0, .ref (ad 37)), (2, .int x2)]) hx hb dX8_runErrands_55 hl (k := 3) rfl (by rw [ex1_12]; rfl) (by decide) rfl (fun ls hl => ?_)
        refine lv_goto (tgt := 69) hx hb dX8_runErrands_58 (by decide) ?_
        obtain ⟨x2_13, ex2_13, hf⟩ := sq_out hf
        refine lv_iinc (v := x2_13) (lv' := [(2, .int x2_13), (1, .int x1_12), (4, .int y5), (3, .int x3_2), (0, .ref (ad 37))]) hx hb dX8_runErrands_69 hl (k := 4) rfl (by rw [ex2_13]; rfl) (by decide) rfl (fun ls hl => ?_)
        refine lv_goto (tgt := 4) hx hb dX8_runErrands_72 (by decide) ?_
        exact ih x1_12 x2_13 f6 hf H locs ls hP hS (lv_sub hl [4, 1, 0] rfl)
def q_X8_runErrands (N : Nat) (f : mM) : Option (Int32 × mM) := bi2 (lp_X8_runErrands_4 N N 0 0 f) (fun y14 f15 => some (y14, f15))
set_option maxHeartbeats 4000000 in
set_option maxRecDepth 100000 in
theorem b_X8_runErrands (C0 : cX p s m args meth c cX8_runErrands 5 (some .int) RX8 wsX8_runErrands D cy (xP ad sk sv)) (hj : jP ad) (hR : 18 ≤ R.frames ∧ 421 ≤ R.locals) (N : Nat)  (f : mM) (t : Int64) (r : Int32) (fR : mM) (hf : q_X8_runErrands N f = some (r, fR)) (kr : ∀ (H : Heap) (locs : List Loc) (ls : Array Slot) (pc : Nat), decode cX8_runErrands pc = .ok (.ireturn, 1) → va_P D vwCl (wP ad cy fR t) H → va_S (aP ad) s.heap H locs → W p l e R s m args below meth c H locs 0 0 Q (F0 m pc ls [.int r])) (H : Heap) (locs : List Loc) (ls : Array Slot) (hP : va_P D vwCl (wP ad cy f t) H) (hS : va_S (aP ad) s.heap H locs) (hl : lv_has ls 5 [(0, .ref (ad 37))]) : W p l e R s m args below meth c H locs 0 0 Q (F0 m 0 ls []) := by
  obtain ⟨hx, hb, hr, hml, hown, hts, hlocks, hK, hX0⟩ := id C0
  unfold q_X8_runErrands at hf
  refine lv_iconst (v := 0) hx hb dX8_runErrands_0 (by decide) ?_
  refine lv_istore_n (lv' := [(1, .int 0), (0, .ref (ad 37))]) hx hb dX8_runErrands_1 rfl hl (by decide) rfl (fun ls hl => ?_)
  refine lv_iconst (v := 0) hx hb dX8_runErrands_2 (by decide) ?_
  refine lv_istore_n (lv' := [(2, .int 0), (1, .int 0), (0, .ref (ad 37))]) hx hb dX8_runErrands_3 rfl hl (by decide) rfl (fun ls hl => ?_)
  obtain ⟨y14, f15, hlp16, hf⟩ := bi2_out hf
  refine lp_X8_runErrands_4_w C0 hj hR N t y14 f15 ?_ N 0 0 f hlp16 H locs ls hP hS (lv_sub hl [2, 1, 0] rfl)
  intro H locs ls hP hS hl
  refine lv_iload_n hx hb dX8_runErrands_75 rfl (lv_at hl 0 rfl) ?_
  obtain ⟨rfl, rfl⟩ := Prod.mk.inj (Option.some.inj hf)
  exact kr H locs ls 76 dX8_runErrands_76 hP hS
set_option maxHeartbeats 4000000 in
set_option maxRecDepth 100000 in
theorem c_X8_runErrands (hj : jP ad) (l : Launch) (N : Nat)  (f : mM) (t : Int64) (r : Int32) (fR : mM) (hf : q_X8_runErrands N f = some (r, fR)) : Met l yX8_runErrands wsX8_runErrands ({ frames := 18, cells := 0, slots := 0, locals := 421 }) (va_Pc ([.ref (ad 37)]) (pre D cy (wP ad cy) (xP ad sk sv) f t)) (va_Qi (fun (r2 : Int32) (u : mM × Int64) => r2 = r ∧ u = (fR, t)) (atW D (wP ad cy)) (aP ad)) 0 0 (aP ad) := by
  refine Met.ofW (cc := cX8_runErrands) (maxL := 5) (ret := (some .int)) (by decide) rfl ?_
  intro p e s m args below meth c s₁ B hml hv
  obtain ⟨rfl, hP, hK, hX0⟩ := hv
  have hl := lv_entry ([.ref (ad 37)]) (n := 5) (Nat.le_of_ble_eq_true rfl)
  rw [lg_entry_eq]
  generalize (lg_sl ([.ref (ad 37)]) ++ List.replicate (5 - (lg_sl ([.ref (ad 37)])).length) Slot.unset).toArray = ls at hl ⊢
  have hlocks := B.notSynchronized
  exact b_X8_runErrands ⟨B.exec, B.bytes, B.returns, hml, findClass_of_methodNamed B.named, atoms_spec (ws := wsX8_runErrands) B.pre, hlocks, hK, hX0⟩ hj ⟨Nat.le_refl _, Nat.le_refl _⟩ N  f t r fR hf (fun H locs ls pc hd hP hS => W.iret B.exec B.bytes B.returns (fun t2 ht hW => ⟨⟨r, (fR, t), rfl, ⟨rfl, rfl⟩, by show va_P D vwCl _ t2.heap; rw [ht]; exact hP⟩, hS.F ht⟩) hS.2.2 hd) s.heap [] ls hP va_S.rf hl
