variable {p : Program} {l : Launch} {e : Env} {R : Room} {s : State} {m : MethodId} {args : Array Value} {below : List Frame} {meth : Method} {c : Code} {Q : State → Prop} {D : va_G} {cy : Nat → ClassId} {ad sk sv : Nat → Nat}
def lp_X10_listsWays_173 (N : Nat) (x1 : Int32) (x2 : Int32) (x3 : Int32) (x4 : Int32) (f : mM) : Nat → Int32 → Int32 → Int32 → Option (Int32 × Int32)
  | 0, _, _, _ => none
  | n + 1, x6, x7, x8 => if x4 < x8 then some (x6, x7) else gi x8 6 (sq (x6 ||| (1 <<< ((f 11 (Int32.toNatClampNeg x8)) &&& 31))) (fun x6_31 => bi (q_X10_takenBy x2 x8 f) (fun y32 => sq (fun (v34 : Int32) => sq (x7 ||| v34) (fun x7_36 => sq (x8 + 1) (fun x8_37 => lp_X10_listsWays_173 N x1 x2 x3 x4 f n x6_31 x7_36 x8_37))) (fun k35 => if y32 ≤ 0 then k35 0 else gi x8 6 (k35 (1 <<< ((f 11 (Int32.toNatClampNeg x8)) &&& 31)))))))
theorem lp_X10_listsWays_173_s (N : Nat) (x1 : Int32) (x2 : Int32) (x3 : Int32) (x4 : Int32) (f : mM) (n : Nat) (x6 : Int32) (x7 : Int32) (x8 : Int32) : lp_X10_listsWays_173 N x1 x2 x3 x4 f (n + 1) x6 x7 x8 = (if x4 < x8 then some (x6, x7) else gi x8 6 (sq (x6 ||| (1 <<< ((f 11 (Int32.toNatClampNeg x8)) &&& 31))) (fun x6_31 => bi (q_X10_takenBy x2 x8 f) (fun y32 => sq (fun (v34 : Int32) => sq (x7 ||| v34) (fun x7_36 => sq (x8 + 1) (fun x8_37 => lp_X10_listsWays_173 N x1 x2 x3 x4 f n x6_31 x7_36 x8_37))) (fun k35 => if y32 ≤ 0 then k35 0 else gi x8 6 (k35 (1 <<< ((f 11 (Int32.toNatClampNeg x8)) &&& 31)))))))) := rfl
set_option maxHeartbeats 4000000 in
set_option maxRecDepth 100000 in
theorem lp_X10_listsWays_173_w (C0 : cX p s m args meth c cX10_listsWays 9 none RX10 wsX10_listsWays D cy (xR)) (hj : jR ad) (hR : 2 ≤ R.frames ∧ 49 ≤ R.locals) (N : Nat) (x1 : Int32) (x2 : Int32) (x3 : Int32) (x4 : Int32) (f : mM) (t : Int64) (r6 : Int32) (r7 : Int32) (kx228 : ∀ (H : Heap) (locs : List Loc) (ls : Array Slot), va_P D vwCl (wR ad cy f t) H → va_S (aR ad) s.heap H locs → lv_has ls 9 [(0, .ref (ad 0)), (1, .int x1), (2, .int x2), (3, .int x3), (4, .int x4), (6, .int r6), (7, .int r7)] → W p l e R s m args below meth c H locs 0 0 Q (F0 m 228 ls [])) : ∀ (n : Nat) (x6 : Int32) (x7 : Int32) (x8 : Int32), lp_X10_listsWays_173 N x1 x2 x3 x4 f n x6 x7 x8 = some (r6, r7) → ∀ (H : Heap) (locs : List Loc) (ls : Array Slot), va_P D vwCl (wR ad cy f t) H → va_S (aR ad) s.heap H locs → lv_has ls 9 [(0, .ref (ad 0)), (1, .int x1), (2, .int x2), (3, .int x3), (4, .int x4), (6, .int x6), (7, .int x7), (8, .int x8)] → W p l e R s m args below meth c H locs 0 0 Q (F0 m 173 ls []) := by
  obtain ⟨hx, hb, hr, hml, hown, hts, hlocks, hK, hX0⟩ := id C0
  have lk41 := hts (.fieldLink RX10 41 "PlankNineModel" "row" "[I") (List.mem_of_getElem? (i := 3) rfl)
  have hiX10 : ∀ w ∈ u_ws RX10 TX10 34, w ∈ wsX10_listsWays := fun w h => List.mem_cons_of_mem _ (List.mem_append_right _ h)
  intro n
  induction n with
  | zero =>
    intro x6 x7 x8 hf
    exact no_none hf
  | succ n ih =>
    intro x6 x7 x8 hf H locs ls hP hS hl
    have hf := (lp_X10_listsWays_173_s N x1 x2 x3 x4 f n x6 x7 x8).symm.trans hf
    refine lv_iload hx hb dX10_listsWays_173 (lv_at hl 7 rfl) ?_
    refine lv_iload hx hb dX10_listsWays_175 (lv_at hl 4 rfl) ?_
    refine lv_icmp_gt (tgt := 228) hx hb dX10_listsWays_177 (by decide) (fun c177 => ?_) (fun c177 => ?_)
    · have hf := itT hf c177
      have hg_0 := Option.some.inj hf
      obtain ⟨rfl, rfl⟩ := Prod.mk.inj hg_0
      exact kx228 H locs ls hP hS (lv_sub hl [0, 1, 2, 3, 4, 5, 6] rfl)
    · have hf := itF hf c177
      refine lv_iload hx hb dX10_listsWays_180 (lv_at hl 5 rfl) ?_
      refine lv_iconst (v := 1) hx hb dX10_listsWays_182 (by decide) ?_
      refine lv_aload_n hx hb dX10_listsWays_183 rfl (lv_at hl 0 rfl) ?_
      refine va_get (D := D) (ci := 10) (v := .ref (ad 11)) (C := RX10) (T := TX10) (N := 34) hx hb hts hiX10 hown hK hP 0 rfl rfl 26 (by decide) lk41 (fun _ h9 => h9) rfl dX10_listsWays_184 ?_
      refine lv_iload hx hb dX10_listsWays_187 (lv_at hl 7 rfl) ?_
      obtain ⟨hin30, hf⟩ := gi_out hf
      refine va_iald hx hb hK hP 11 1 rfl rfl hin30 dX10_listsWays_189 ?_
      refine lv_ishl hx hb dX10_listsWays_190 ?_
      refine lv_ior hx hb dX10_listsWays_191 ?_
      obtain ⟨x6_31, ex6_31, hf⟩ := sq_out hf
      refine lv_nmi ex6_31 ?_
      refine lv_istore (lv' := [(6, .int x6_31), (0, .ref (ad 0)), (1, .int x1), (2, .int x2), (3, .int x3), (4, .int x4), (7, .int x7), (8, .int x8)]) hx hb dX10_listsWays_192 hl (by decide) rfl (fun ls hl => ?_)
      refine lv_iload hx hb dX10_listsWays_194 (lv_at hl 6 rfl) ?_
      refine lv_aload_n hx hb dX10_listsWays_196 rfl (lv_at hl 1 rfl) ?_
      refine lv_iload_n hx hb dX10_listsWays_197 rfl (lv_at hl 3 rfl) ?_
      refine lv_iload hx hb dX10_listsWays_198 (lv_at hl 7 rfl) ?_
      obtain ⟨y32, hq33, hf⟩ := bi_out hf
      refine cw_vi (As := [.int x2, .int x8]) (rest := [.int x7]) ⟨hx, hb, hml, hown, hts⟩ xR_S hK hX0 hS hP (c_X10_takenBy hj l x2 x8 f t y32 hq33) (cwV 2 hts gX10_listsWays_X10_takenBy rfl rfl rfl (by decide +kernel) ⟨Nat.le_trans (Nat.le_of_ble_eq_true rfl) hR.1, Nat.le_trans (Nat.le_of_ble_eq_true rfl) hR.2⟩) (va_recv hK hP (ci := 10) (q0 := 0) rfl rfl) rfl hl.1 rfl (Nat.le_of_ble_eq_true rfl) ⟨Nat.zero_le _, Nat.zero_le _⟩ dX10_listsWays_200 (fun H locs hP hS => ?_)
      obtain ⟨k35, ek35, hf⟩ := sq_out hf
      have hk35 : ∀ (v34 : Int32), k35 v34 = some (r6, r7) → ∀ (H : Heap) (locs : List Loc) (ls : Array Slot), va_P D vwCl (wR ad cy f t) H → va_S (aR ad) s.heap H locs → lv_has ls 9 [(0, .ref (ad 0)), (1, .int x1), (2, .int x2), (3, .int x3), (4, .int x4), (6, .int x6_31), (8, .int x8)] → W p l e R s m args below meth c H locs 0 0 Q (F0 m 219 ls [.int v34, .int x7]) := by
        intro v34 hf H locs ls hP hS hl
        have hf := sk1 ek35 v34 hf
        refine lv_ior hx hb dX10_listsWays_219 ?_
        obtain ⟨x7_36, ex7_36, hf⟩ := sq_out hf
        refine lv_nmi ex7_36 ?_
        refine lv_istore (lv' := [(7, .int x7_36), (0, .ref (ad 0)), (1, .int x1), (2, .int x2), (3, .int x3), (4, .int x4), (6, .int x6_31), (8, .int x8)]) hx hb dX10_listsWays_220 hl (by decide) rfl (fun ls hl => ?_)
        obtain ⟨x8_37, ex8_37, hf⟩ := sq_out hf
        refine lv_iinc (v := x8_37) (lv' := [(8, .int x8_37), (7, .int x7_36), (0, .ref (ad 0)), (1, .int x1), (2, .int x2), (3, .int x3), (4, .int x4), (6, .int x6_31)]) hx hb dX10_listsWays_222 hl (k := 7) rfl (by rw [ex8_37]; rfl) (by decide) rfl (fun ls hl => ?_)
        refine lv_goto (tgt := 173) hx hb dX10_listsWays_225 (by decide) ?_
        exact ih x6_31 x7_36 x8_37 hf H locs ls hP hS (lv_sub hl [2, 3, 4, 5, 6, 7, 1, 0] rfl)
      refine lv_if_le (tgt := 218) hx hb dX10_listsWays_203 (by decide) (fun c203 => ?_) (fun c203 => ?_)
      · have hf := itT hf c203
        refine lv_iconst (v := 0) hx hb dX10_listsWays_218 (by decide) ?_
        exact hk35 0 hf H locs ls hP hS (lv_sub hl [1, 2, 3, 4, 5, 0, 7] rfl)
      · have hf := itF hf c203
        refine lv_iconst (v := 1) hx hb dX10_listsWays_206 (by decide) ?_
        refine lv_aload_n hx hb dX10_listsWays_207 rfl (lv_at hl 1 rfl) ?_
        refine va_get (D := D) (ci := 10) (v := .ref (ad 11)) (C := RX10) (T := TX10) (N := 34) hx hb hts hiX10 hown hK hP 0 rfl rfl 26 (by decide) lk41 (fun _ h9 => h9) rfl dX10_listsWays_208 ?_
        refine lv_iload hx hb dX10_listsWays_211 (lv_at hl 7 rfl) ?_
        obtain ⟨hin38, hf⟩ := gi_out hf
        refine va_iald hx hb hK hP 11 1 rfl rfl hin38 dX10_listsWays_213 ?_
        refine lv_ishl hx hb dX10_listsWays_214 ?_
        refine lv_goto (tgt := 219) hx hb dX10_listsWays_215 (by decide) ?_
        exact hk35 _ hf H locs ls hP hS (lv_sub hl [1, 2, 3, 4, 5, 0, 7] rfl)
def lp_X10_listsWays_37 (N : Nat) (x1 : Int32) (x2 : Int32) : Nat → Int32 → Int32 → mM → Option (Int32 × mM)
  | 0, _, _, _ => none
  | n + 1, x3, x4, f => if x4 < 0 then some (x3, f) else gi x4 7 (gi x4 6 (bi (q_X10_nextPlank N (f 12 (Int32.toNatClampNeg x4)) (f 11 (Int32.toNatClampNeg x4)) x4 f) (fun y10 => gi x4 6 (sq (st2 f 11 (Int32.toNatClampNeg x4) y10) (fun f13 => gi x4 6 (sq (f13 11 (Int32.toNatClampNeg x4)) (fun x5_15 => if x5_15 = (f13 0 16) then sq (x4 + (-1)) (fun x4_47 => lp_X10_listsWays_37 N x1 x2 n x3 x4_47 f13) else gi x5_15 50 (if (f13 8 (Int32.toNatClampNeg x5_15)) ≤ 0 then lp_X10_listsWays_37 N x1 x2 n x3 x4 f13 else gi x5_15 50 (bi (q_X10_takenBy x2 x4 f13) (fun y18 => if (f13 8 (Int32.toNatClampNeg x5_15)) < y18 then lp_X10_listsWays_37 N x1 x2 n x3 x4 f13 else gi x4 7 (bi (q_X10_across x5_15 (f13 12 (Int32.toNatClampNeg x4)) f13) (fun y21 => gi (x4 + 1) 7 (sq (st2 f13 12 (Int32.toNatClampNeg (x4 + 1)) y21) (fun f24 => gi (x4 + 1) 7 (gi ((3 * x1) + 2) 18 (if (f24 12 (Int32.toNatClampNeg (x4 + 1))) = (f24 7 (Int32.toNatClampNeg ((3 * x1) + 2))) then bi2 (lp_X10_listsWays_173 N x1 x2 x3 x4 f24 N 0 0 0) (fun y39 y40 => gi ((1000 * x1) + x3) 3000 (sq (st2 f24 14 (Int32.toNatClampNeg ((1000 * x1) + x3)) y39) (fun f43 => gi ((1000 * x1) + x3) 3000 (sq (st2 f43 15 (Int32.toNatClampNeg ((1000 * x1) + x3)) y40) (fun f45 => sq (x3 + 1) (fun x3_46 => lp_X10_listsWays_37 N x1 x2 n x3_46 x4 f45)))))) else sq (x4 + 1) (fun x4_27 => gi x4_27 6 (sq (st2 f24 11 (Int32.toNatClampNeg x4_27) (-1)) (fun f29 => lp_X10_listsWays_37 N x1 x2 n x3 x4_27 f29)))))))))))))))))))
theorem lp_X10_listsWays_37_s (N : Nat) (x1 : Int32) (x2 : Int32) (n : Nat) (x3 : Int32) (x4 : Int32) (f : mM) : lp_X10_listsWays_37 N x1 x2 (n + 1) x3 x4 f = (if x4 < 0 then some (x3, f) else gi x4 7 (gi x4 6 (bi (q_X10_nextPlank N (f 12 (Int32.toNatClampNeg x4)) (f 11 (Int32.toNatClampNeg x4)) x4 f) (fun y10 => gi x4 6 (sq (st2 f 11 (Int32.toNatClampNeg x4) y10) (fun f13 => gi x4 6 (sq (f13 11 (Int32.toNatClampNeg x4)) (fun x5_15 => if x5_15 = (f13 0 16) then sq (x4 + (-1)) (fun x4_47 => lp_X10_listsWays_37 N x1 x2 n x3 x4_47 f13) else gi x5_15 50 (if (f13 8 (Int32.toNatClampNeg x5_15)) ≤ 0 then lp_X10_listsWays_37 N x1 x2 n x3 x4 f13 else gi x5_15 50 (bi (q_X10_takenBy x2 x4 f13) (fun y18 => if (f13 8 (Int32.toNatClampNeg x5_15)) < y18 then lp_X10_listsWays_37 N x1 x2 n x3 x4 f13 else gi x4 7 (bi (q_X10_across x5_15 (f13 12 (Int32.toNatClampNeg x4)) f13) (fun y21 => gi (x4 + 1) 7 (sq (st2 f13 12 (Int32.toNatClampNeg (x4 + 1)) y21) (fun f24 => gi (x4 + 1) 7 (gi ((3 * x1) + 2) 18 (if (f24 12 (Int32.toNatClampNeg (x4 + 1))) = (f24 7 (Int32.toNatClampNeg ((3 * x1) + 2))) then bi2 (lp_X10_listsWays_173 N x1 x2 x3 x4 f24 N 0 0 0) (fun y39 y40 => gi ((1000 * x1) + x3) 3000 (sq (st2 f24 14 (Int32.toNatClampNeg ((1000 * x1) + x3)) y39) (fun f43 => gi ((1000 * x1) + x3) 3000 (sq (st2 f43 15 (Int32.toNatClampNeg ((1000 * x1) + x3)) y40) (fun f45 => sq (x3 + 1) (fun x3_46 => lp_X10_listsWays_37 N x1 x2 n x3_46 x4 f45)))))) else sq (x4 + 1) (fun x4_27 => gi x4_27 6 (sq (st2 f24 11 (Int32.toNatClampNeg x4_27) (-1)) (fun f29 => lp_X10_listsWays_37 N x1 x2 n x3 x4_27 f29)))))))))))))))))))) := rfl
set_option maxHeartbeats 4000000 in
set_option maxRecDepth 100000 in
theorem lp_X10_listsWays_37_w (C0 : cX p s m args meth c cX10_listsWays 9 none RX10 wsX10_listsWays D cy (xR)) (hj : jR ad) (hR : 2 ≤ R.frames ∧ 49 ≤ R.locals) (N : Nat) (x1 : Int32) (x2 : Int32) (t : Int64) (r3 : Int32) (fR : mM) (kx276 : ∀ (H : Heap) (locs : List Loc) (ls : Array Slot), va_P D vwCl (wR ad cy fR t) H → va_S (aR ad) s.heap H locs → lv_has ls 9 [(0, .ref (ad 0)), (1, .int x1), (3, .int r3)] → W p l e R s m args below meth c H locs 0 0 Q (F0 m 276 ls [])) : ∀ (n : Nat) (x3 : Int32) (x4 : Int32) (f : mM), lp_X10_listsWays_37 N x1 x2 n x3 x4 f = some (r3, fR) → ∀ (H : Heap) (locs : List Loc) (ls : Array Slot), va_P D vwCl (wR ad cy f t) H → va_S (aR ad) s.heap H locs → lv_has ls 9 [(0, .ref (ad 0)), (1, .int x1), (2, .int x2), (3, .int x3), (4, .int x4)] → W p l e R s m args below meth c H locs 0 0 Q (F0 m 37 ls []) := by
  obtain ⟨hx, hb, hr, hml, hown, hts, hlocks, hK, hX0⟩ := id C0
  have lk41 := hts (.fieldLink RX10 41 "PlankNineModel" "row" "[I") (List.mem_of_getElem? (i := 3) rfl)
  have hiX10 : ∀ w ∈ u_ws RX10 TX10 34, w ∈ wsX10_listsWays := fun w h => List.mem_cons_of_mem _ (List.mem_append_right _ h)
  have lk44 := hts (.fieldLink RX10 44 "PlankNineModel" "at" "[I") (List.mem_of_getElem? (i := 2) rfl)
  have lk148 := hts (.fieldLink RX10 148 "PlankNineModel" "planks" "I") (List.mem_of_getElem? (i := 4) rfl)
  have lk31 := hts (.fieldLink RX10 31 "PlankNineModel" "s" "[I") (List.mem_of_getElem? (i := 5) rfl)
  have lk28 := hts (.fieldLink RX10 28 "PlankNineModel" "errands" "[I") (List.mem_of_getElem? (i := 1) rfl)
  have lk50 := hts (.fieldLink RX10 50 "PlankNineModel" "gone" "[I") (List.mem_of_getElem? (i := 6) rfl)
  have lk53 := hts (.fieldLink RX10 53 "PlankNineModel" "trodden" "[I") (List.mem_of_getElem? (i := 7) rfl)
  intro n
  induction n with
  | zero =>
    intro x3 x4 f hf
    exact no_none hf
  | succ n ih =>
    intro x3 x4 f hf H locs ls hP hS hl
    have hf := (lp_X10_listsWays_37_s N x1 x2 n x3 x4 f).symm.trans hf
    refine lv_iload hx hb dX10_listsWays_37 (lv_at hl 4 rfl) ?_
    refine lv_if_lt (tgt := 276) hx hb dX10_listsWays_39 (by decide) (fun c39 => ?_) (fun c39 => ?_)
    · have hf := itT hf c39
      have hg_0 := Option.some.inj hf
      obtain ⟨rfl, rfl⟩ := Prod.mk.inj hg_0
      exact kx276 H locs ls hP hS (lv_sub hl [0, 1, 3] rfl)
    · have hf := itF hf c39
      refine lv_aload_n hx hb dX10_listsWays_42 rfl (lv_at hl 0 rfl) ?_
      refine va_get (D := D) (ci := 10) (v := .ref (ad 11)) (C := RX10) (T := TX10) (N := 34) hx hb hts hiX10 hown hK hP 0 rfl rfl 26 (by decide) lk41 (fun _ h9 => h9) rfl dX10_listsWays_43 ?_
      refine lv_iload hx hb dX10_listsWays_46 (lv_at hl 4 rfl) ?_
      refine lv_aload_n hx hb dX10_listsWays_48 rfl (lv_at hl 0 rfl) ?_
      refine lv_aload_n hx hb dX10_listsWays_49 rfl (lv_at hl 0 rfl) ?_
      refine va_get (D := D) (ci := 10) (v := .ref (ad 12)) (C := RX10) (T := TX10) (N := 34) hx hb hts hiX10 hown hK hP 0 rfl rfl 27 (by decide) lk44 (fun _ h9 => h9) rfl dX10_listsWays_50 ?_
      refine lv_iload hx hb dX10_listsWays_53 (lv_at hl 4 rfl) ?_
      obtain ⟨hin8, hf⟩ := gi_out hf
      refine va_iald hx hb hK hP 12 1 rfl rfl hin8 dX10_listsWays_55 ?_
      refine lv_aload_n hx hb dX10_listsWays_56 rfl (lv_at hl 0 rfl) ?_
      refine va_get (D := D) (ci := 10) (v := .ref (ad 11)) (C := RX10) (T := TX10) (N := 34) hx hb hts hiX10 hown hK hP 0 rfl rfl 26 (by decide) lk41 (fun _ h9 => h9) rfl dX10_listsWays_57 ?_
      refine lv_iload hx hb dX10_listsWays_60 (lv_at hl 4 rfl) ?_
      obtain ⟨hin9, hf⟩ := gi_out hf
      refine va_iald hx hb hK hP 11 1 rfl rfl hin9 dX10_listsWays_62 ?_
      refine lv_iload hx hb dX10_listsWays_63 (lv_at hl 4 rfl) ?_
      obtain ⟨y10, hq11, hf⟩ := bi_out hf
      refine cw_vi (As := [.int (f 12 (Int32.toNatClampNeg x4)), .int (f 11 (Int32.toNatClampNeg x4)), .int x4]) (rest := [.int x4, .ref (ad 11)]) ⟨hx, hb, hml, hown, hts⟩ xR_S hK hX0 hS hP (c_X10_nextPlank hj l N (f 12 (Int32.toNatClampNeg x4)) (f 11 (Int32.toNatClampNeg x4)) x4 f t y10 hq11) (cwV 3 hts gX10_listsWays_X10_nextPlank rfl rfl rfl (by decide +kernel) ⟨Nat.le_trans (Nat.le_of_ble_eq_true rfl) hR.1, Nat.le_trans (Nat.le_of_ble_eq_true rfl) hR.2⟩) (va_recv hK hP (ci := 10) (q0 := 0) rfl rfl) rfl hl.1 rfl (Nat.le_of_ble_eq_true rfl) ⟨Nat.zero_le _, Nat.zero_le _⟩ dX10_listsWays_65 (fun H locs hP hS => ?_)
      obtain ⟨hin12, hf⟩ := gi_out hf
      obtain ⟨f13, ef13, hf⟩ := sq_out hf
      refine va_iast hx hb hK hP (dR hj f t) hS 11 1 rfl rfl hin12 dX10_listsWays_68 (fun H locs hP _ hS => ?_)
      have hP := sR_11 ef13 hP
      refine lv_aload_n hx hb dX10_listsWays_69 rfl (lv_at hl 0 rfl) ?_
      refine va_get (D := D) (ci := 10) (v := .ref (ad 11)) (C := RX10) (T := TX10) (N := 34) hx hb hts hiX10 hown hK hP 0 rfl rfl 26 (by decide) lk41 (fun _ h9 => h9) rfl dX10_listsWays_70 ?_
      refine lv_iload hx hb dX10_listsWays_73 (lv_at hl 4 rfl) ?_
      obtain ⟨hin14, hf⟩ := gi_out hf
      refine va_iald hx hb hK hP 11 1 rfl rfl hin14 dX10_listsWays_75 ?_
      obtain ⟨x5_15, ex5_15, hf⟩ := sq_out hf
      refine lv_nmi ex5_15 ?_
      refine lv_istore (lv' := [(5, .int x5_15), (0, .ref (ad 0)), (1, .int x1), (2, .int x2), (3, .int x3), (4, .int x4)]) hx hb dX10_listsWays_76 hl (by decide) rfl (fun ls hl => ?_)
      refine lv_iload hx hb dX10_listsWays_78 (lv_at hl 0 rfl) ?_
      refine lv_aload_n hx hb dX10_listsWays_80 rfl (lv_at hl 1 rfl) ?_
      refine va_get (D := D) (ci := 10) (v := .int (f13 0 16)) (C := RX10) (T := TX10) (N := 34) hx hb hts hiX10 hown hK hP 0 rfl rfl 16 (by decide) lk148 (fun _ h9 => h9) rfl dX10_listsWays_81 ?_
      refine lv_icmp_ne (tgt := 93) hx hb dX10_listsWays_84 (by decide) (fun c84 => ?_) (fun c84 => ?_)
      · have hf := itF hf c84
        refine lv_aload_n hx hb dX10_listsWays_93 rfl (lv_at hl 1 rfl) ?_
        refine va_get (D := D) (ci := 10) (v := .ref (ad 8)) (C := RX10) (T := TX10) (N := 34) hx hb hts hiX10 hown hK hP 0 rfl rfl 23 (by decide) lk31 (fun _ h9 => h9) rfl dX10_listsWays_94 ?_
        refine lv_iload hx hb dX10_listsWays_97 (lv_at hl 0 rfl) ?_
        obtain ⟨hin16, hf⟩ := gi_out hf
        refine va_iald hx hb hK hP 8 1 rfl rfl hin16 dX10_listsWays_99 ?_
        refine lv_if_le (tgt := 273) hx hb dX10_listsWays_100 (by decide) (fun c100 => ?_) (fun c100 => ?_)
        · have hf := itT hf c100
          refine lv_goto (tgt := 37) hx hb dX10_listsWays_273 (by decide) ?_
          exact ih x3 x4 f13 hf H locs ls hP hS (lv_sub hl [1, 2, 3, 4, 5] rfl)
        · have hf := itF hf c100
          refine lv_aload_n hx hb dX10_listsWays_103 rfl (lv_at hl 1 rfl) ?_
          refine va_get (D := D) (ci := 10) (v := .ref (ad 8)) (C := RX10) (T := TX10) (N := 34) hx hb hts hiX10 hown hK hP 0 rfl rfl 23 (by decide) lk31 (fun _ h9 => h9) rfl dX10_listsWays_104 ?_
          refine lv_iload hx hb dX10_listsWays_107 (lv_at hl 0 rfl) ?_
          obtain ⟨hin17, hf⟩ := gi_out hf
          refine va_iald hx hb hK hP 8 1 rfl rfl hin17 dX10_listsWays_109 ?_
          refine lv_aload_n hx hb dX10_listsWays_110 rfl (lv_at hl 1 rfl) ?_
          refine lv_iload_n hx hb dX10_listsWays_111 rfl (lv_at hl 3 rfl) ?_
          refine lv_iload hx hb dX10_listsWays_112 (lv_at hl 5 rfl) ?_
          obtain ⟨y18, hq19, hf⟩ := bi_out hf
          refine cw_vi (As := [.int x2, .int x4]) (rest := [.int (f13 8 (Int32.toNatClampNeg x5_15))]) ⟨hx, hb, hml, hown, hts⟩ xR_S hK hX0 hS hP (c_X10_takenBy hj l x2 x4 f13 t y18 hq19) (cwV 2 hts gX10_listsWays_X10_takenBy rfl rfl rfl (by decide +kernel) ⟨Nat.le_trans (Nat.le_of_ble_eq_true rfl) hR.1, Nat.le_trans (Nat.le_of_ble_eq_true rfl) hR.2⟩) (va_recv hK hP (ci := 10) (q0 := 0) rfl rfl) rfl hl.1 rfl (Nat.le_of_ble_eq_true rfl) ⟨Nat.zero_le _, Nat.zero_le _⟩ dX10_listsWays_114 (fun H locs hP hS => ?_)
          refine lv_icmp_lt (tgt := 273) hx hb dX10_listsWays_117 (by decide) (fun c117 => ?_) (fun c117 => ?_)
          · have hf := itT hf c117
            refine lv_goto (tgt := 37) hx hb dX10_listsWays_273 (by decide) ?_
            exact ih x3 x4 f13 hf H locs ls hP hS (lv_sub hl [1, 2, 3, 4, 5] rfl)
          · have hf := itF hf c117
            refine lv_aload_n hx hb dX10_listsWays_120 rfl (lv_at hl 1 rfl) ?_
            refine va_get (D := D) (ci := 10) (v := .ref (ad 12)) (C := RX10) (T := TX10) (N := 34) hx hb hts hiX10 hown hK hP 0 rfl rfl 27 (by decide) lk44 (fun _ h9 => h9) rfl dX10_listsWays_121 ?_
            refine lv_iload hx hb dX10_listsWays_124 (lv_at hl 5 rfl) ?_
            refine lv_iconst (v := 1) hx hb dX10_listsWays_126 (by decide) ?_
            refine lv_iadd hx hb dX10_listsWays_127 ?_
            refine lv_aload_n hx hb dX10_listsWays_128 rfl (lv_at hl 1 rfl) ?_
            refine lv_iload hx hb dX10_listsWays_129 (lv_at hl 0 rfl) ?_
            refine lv_aload_n hx hb dX10_listsWays_131 rfl (lv_at hl 1 rfl) ?_
            refine va_get (D := D) (ci := 10) (v := .ref (ad 12)) (C := RX10) (T := TX10) (N := 34) hx hb hts hiX10 hown hK hP 0 rfl rfl 27 (by decide) lk44 (fun _ h9 => h9) rfl dX10_listsWays_132 ?_
            refine lv_iload hx hb dX10_listsWays_135 (lv_at hl 5 rfl) ?_
            obtain ⟨hin20, hf⟩ := gi_out hf
            refine va_iald hx hb hK hP 12 1 rfl rfl hin20 dX10_listsWays_137 ?_
            obtain ⟨y21, hq22, hf⟩ := bi_out hf
            refine cw_vi (As := [.int x5_15, .int (f13 12 (Int32.toNatClampNeg x4))]) (rest := [.int (x4 + 1), .ref (ad 12)]) ⟨hx, hb, hml, hown, hts⟩ xR_S hK hX0 hS hP (c_X10_across hj l x5_15 (f13 12 (Int32.toNatClampNeg x4)) f13 t y21 hq22) (cwV 2 hts gX10_listsWays_X10_across rfl rfl rfl (by decide +kernel) ⟨Nat.le_trans (Nat.le_of_ble_eq_true rfl) hR.1, Nat.le_trans (Nat.le_of_ble_eq_true rfl) hR.2⟩) (va_recv hK hP (ci := 10) (q0 := 0) rfl rfl) rfl hl.1 rfl (Nat.le_of_ble_eq_true rfl) ⟨Nat.zero_le _, Nat.zero_le _⟩ dX10_listsWays_138 (fun H locs hP hS => ?_)
            obtain ⟨hin23, hf⟩ := gi_out hf
            obtain ⟨f24, ef24, hf⟩ := sq_out hf
            refine va_iast hx hb hK hP (dR hj f13 t) hS 12 1 rfl rfl hin23 dX10_listsWays_141 (fun H locs hP _ hS => ?_)
            have hP := sR_12 ef24 hP
            refine lv_aload_n hx hb dX10_listsWays_142 rfl (lv_at hl 1 rfl) ?_
            refine va_get (D := D) (ci := 10) (v := .ref (ad 12)) (C := RX10) (T := TX10) (N := 34) hx hb hts hiX10 hown hK hP 0 rfl rfl 27 (by decide) lk44 (fun _ h9 => h9) rfl dX10_listsWays_143 ?_
            refine lv_iload hx hb dX10_listsWays_146 (lv_at hl 5 rfl) ?_
            refine lv_iconst (v := 1) hx hb dX10_listsWays_148 (by decide) ?_
            refine lv_iadd hx hb dX10_listsWays_149 ?_
            obtain ⟨hin25, hf⟩ := gi_out hf
            refine va_iald hx hb hK hP 12 1 rfl rfl hin25 dX10_listsWays_150 ?_
            refine lv_aload_n hx hb dX10_listsWays_151 rfl (lv_at hl 1 rfl) ?_
            refine va_get (D := D) (ci := 10) (v := .ref (ad 7)) (C := RX10) (T := TX10) (N := 34) hx hb hts hiX10 hown hK hP 0 rfl rfl 14 (by decide) lk28 (fun _ h9 => h9) rfl dX10_listsWays_152 ?_
            refine lv_iconst (v := 3) hx hb dX10_listsWays_155 (by decide) ?_
            refine lv_iload_n hx hb dX10_listsWays_156 rfl (lv_at hl 2 rfl) ?_
            refine lv_imul hx hb dX10_listsWays_157 ?_
            refine lv_iconst (v := 2) hx hb dX10_listsWays_158 (by decide) ?_
            refine lv_iadd hx hb dX10_listsWays_159 ?_
            obtain ⟨hin26, hf⟩ := gi_out hf
            refine va_iald hx hb hK hP 7 1 rfl rfl hin26 dX10_listsWays_160 ?_
            refine lv_icmp_ne (tgt := 262) hx hb dX10_listsWays_161 (by decide) (fun c161 => ?_) (fun c161 => ?_)
            · have hf := itF hf c161
              obtain ⟨x4_27, ex4_27, hf⟩ := sq_out hf
              refine lv_iinc (v := x4_27) (lv' := [(4, .int x4_27), (5, .int x5_15), (0, .ref (ad 0)), (1, .int x1), (2, .int x2), (3, .int x3)]) hx hb dX10_listsWays_262 hl (k := 5) rfl (by rw [ex4_27]; rfl) (by decide) rfl (fun ls hl => ?_)
              refine lv_aload_n hx hb dX10_listsWays_265 rfl (lv_at hl 2 rfl) ?_
              refine va_get (D := D) (ci := 10) (v := .ref (ad 11)) (C := RX10) (T := TX10) (N := 34) hx hb hts hiX10 hown hK hP 0 rfl rfl 26 (by decide) lk41 (fun _ h9 => h9) rfl dX10_listsWays_266 ?_
              refine lv_iload hx hb dX10_listsWays_269 (lv_at hl 0 rfl) ?_
              refine lv_iconst (v := (-1)) hx hb dX10_listsWays_271 (by decide) ?_
              obtain ⟨hin28, hf⟩ := gi_out hf
              obtain ⟨f29, ef29, hf⟩ := sq_out hf
              refine va_iast hx hb hK hP (dR hj f24 t) hS 11 1 rfl rfl hin28 dX10_listsWays_272 (fun H locs hP _ hS => ?_)
              have hP := sR_11 ef29 hP
              refine lv_goto (tgt := 37) hx hb dX10_listsWays_273 (by decide) ?_
              exact ih x3 x4_27 f29 hf H locs ls hP hS (lv_sub hl [2, 3, 4, 5, 0] rfl)
            · have hf := itT hf c161
              refine lv_iconst (v := 0) hx hb dX10_listsWays_164 (by decide) ?_
              refine lv_istore (lv' := [(6, .int 0), (5, .int x5_15), (0, .ref (ad 0)), (1, .int x1), (2, .int x2), (3, .int x3), (4, .int x4)]) hx hb dX10_listsWays_165 hl (by decide) rfl (fun ls hl => ?_)
              refine lv_iconst (v := 0) hx hb dX10_listsWays_167 (by decide) ?_
              refine lv_istore (lv' := [(7, .int 0), (6, .int 0), (5, .int x5_15), (0, .ref (ad 0)), (1, .int x1), (2, .int x2), (3, .int x3), (4, .int x4)]) hx hb dX10_listsWays_168 hl (by decide) rfl (fun ls hl => ?_)
              refine lv_iconst (v := 0) hx hb dX10_listsWays_170 (by decide) ?_
              refine lv_istore (lv' := [(8, .int 0), (7, .int 0), (6, .int 0), (5, .int x5_15), (0, .ref (ad 0)), (1, .int x1), (2, .int x2), (3, .int x3), (4, .int x4)]) hx hb dX10_listsWays_171 hl (by decide) rfl (fun ls hl => ?_)
              obtain ⟨y39, y40, hlp41, hf⟩ := bi2_out hf
              refine lp_X10_listsWays_173_w C0 hj hR N x1 x2 x3 x4 f24 t y39 y40 ?_ N 0 0 0 hlp41 H locs ls hP hS (lv_sub hl [4, 5, 6, 7, 8, 2, 1, 0] rfl)
              intro H locs ls hP hS hl
              refine lv_aload_n hx hb dX10_listsWays_228 rfl (lv_at hl 0 rfl) ?_
              refine va_get (D := D) (ci := 10) (v := .ref (ad 14)) (C := RX10) (T := TX10) (N := 34) hx hb hts hiX10 hown hK hP 0 rfl rfl 29 (by decide) lk50 (fun _ h9 => h9) rfl dX10_listsWays_229 ?_
              refine lv_sipush (v := 1000) hx hb dX10_listsWays_232 (by decide) ?_
              refine lv_iload_n hx hb dX10_listsWays_235 rfl (lv_at hl 1 rfl) ?_
              refine lv_imul hx hb dX10_listsWays_236 ?_
              refine lv_iload_n hx hb dX10_listsWays_237 rfl (lv_at hl 3 rfl) ?_
              refine lv_iadd hx hb dX10_listsWays_238 ?_
              refine lv_iload hx hb dX10_listsWays_239 (lv_at hl 5 rfl) ?_
              obtain ⟨hin42, hf⟩ := gi_out hf
              obtain ⟨f43, ef43, hf⟩ := sq_out hf
              refine va_iast hx hb hK hP (dR hj f24 t) hS 14 1 rfl rfl hin42 dX10_listsWays_241 (fun H locs hP _ hS => ?_)
              have hP := sR_14 ef43 hP
              refine lv_aload_n hx hb dX10_listsWays_242 rfl (lv_at hl 0 rfl) ?_
              refine va_get (D := D) (ci := 10) (v := .ref (ad 15)) (C := RX10) (T := TX10) (N := 34) hx hb hts hiX10 hown hK hP 0 rfl rfl 30 (by decide) lk53 (fun _ h9 => h9) rfl dX10_listsWays_243 ?_
              refine lv_sipush (v := 1000) hx hb dX10_listsWays_246 (by decide) ?_
              refine lv_iload_n hx hb dX10_listsWays_249 rfl (lv_at hl 1 rfl) ?_
              refine lv_imul hx hb dX10_listsWays_250 ?_
              refine lv_iload_n hx hb dX10_listsWays_251 rfl (lv_at hl 3 rfl) ?_
              refine lv_iadd hx hb dX10_listsWays_252 ?_
              refine lv_iload hx hb dX10_listsWays_253 (lv_at hl 6 rfl) ?_
              obtain ⟨hin44, hf⟩ := gi_out hf
              obtain ⟨f45, ef45, hf⟩ := sq_out hf
              refine va_iast hx hb hK hP (dR hj f43 t) hS 15 1 rfl rfl hin44 dX10_listsWays_255 (fun H locs hP _ hS => ?_)
              have hP := sR_15 ef45 hP
              obtain ⟨x3_46, ex3_46, hf⟩ := sq_out hf
              refine lv_iinc (v := x3_46) (lv' := [(3, .int x3_46), (0, .ref (ad 0)), (1, .int x1), (2, .int x2), (4, .int x4), (6, .int y39), (7, .int y40)]) hx hb dX10_listsWays_256 hl (k := 3) rfl (by rw [ex3_46]; rfl) (by decide) rfl (fun ls hl => ?_)
              refine lv_goto (tgt := 273) hx hb dX10_listsWays_259 (by decide) ?_
              refine lv_goto (tgt := 37) hx hb dX10_listsWays_273 (by decide) ?_
              exact ih x3_46 x4 f45 hf H locs ls hP hS (lv_sub hl [1, 2, 3, 0, 4] rfl)
      · have hf := itT hf c84
        obtain ⟨x4_47, ex4_47, hf⟩ := sq_out hf
        refine lv_iinc (v := x4_47) (lv' := [(4, .int x4_47), (5, .int x5_15), (0, .ref (ad 0)), (1, .int x1), (2, .int x2), (3, .int x3)]) hx hb dX10_listsWays_87 hl (k := 5) rfl (by rw [ex4_47]; rfl) (by decide) rfl (fun ls hl => ?_)
        refine lv_goto (tgt := 273) hx hb dX10_listsWays_90 (by decide) ?_
        refine lv_goto (tgt := 37) hx hb dX10_listsWays_273 (by decide) ?_
        exact ih x3 x4_47 f13 hf H locs ls hP hS (lv_sub hl [2, 3, 4, 5, 0] rfl)
def q_X10_listsWays (N : Nat) (x1 : Int32) (f : mM) : Option (mM) := gi (3 * x1) 18 (sq (f 7 (Int32.toNatClampNeg (3 * x1))) (fun x2_2 => gi ((3 * x1) + 1) 18 (gi 0 7 (sq (st2 f 12 (Int32.toNatClampNeg 0) (f 7 (Int32.toNatClampNeg ((3 * x1) + 1)))) (fun f5 => gi 0 6 (sq (st2 f5 11 (Int32.toNatClampNeg 0) (-1)) (fun f7 => bi2 (lp_X10_listsWays_37 N x1 x2_2 N 0 0 f7) (fun y48 f49 => gi x1 3 (sq (st2 f49 16 (Int32.toNatClampNeg x1) y48) (fun f52 => some f52))))))))))
set_option maxHeartbeats 4000000 in
set_option maxRecDepth 100000 in
theorem b_X10_listsWays (C0 : cX p s m args meth c cX10_listsWays 9 none RX10 wsX10_listsWays D cy (xR)) (hj : jR ad) (hR : 2 ≤ R.frames ∧ 49 ≤ R.locals) (N : Nat) (x1 : Int32) (f : mM) (t : Int64) (fR : mM) (hf : q_X10_listsWays N x1 f = some fR) (kr : ∀ (H : Heap) (locs : List Loc) (ls : Array Slot) (pc : Nat), decode cX10_listsWays pc = .ok (.return_, 1) → va_P D vwCl (wR ad cy fR t) H → va_S (aR ad) s.heap H locs → W p l e R s m args below meth c H locs 0 0 Q (F0 m pc ls [])) (H : Heap) (locs : List Loc) (ls : Array Slot) (hP : va_P D vwCl (wR ad cy f t) H) (hS : va_S (aR ad) s.heap H locs) (hl : lv_has ls 9 [(0, .ref (ad 0)), (1, .int x1)]) : W p l e R s m args below meth c H locs 0 0 Q (F0 m 0 ls []) := by
  obtain ⟨hx, hb, hr, hml, hown, hts, hlocks, hK, hX0⟩ := id C0
  have lk28 := hts (.fieldLink RX10 28 "PlankNineModel" "errands" "[I") (List.mem_of_getElem? (i := 1) rfl)
  have hiX10 : ∀ w ∈ u_ws RX10 TX10 34, w ∈ wsX10_listsWays := fun w h => List.mem_cons_of_mem _ (List.mem_append_right _ h)
  have lk44 := hts (.fieldLink RX10 44 "PlankNineModel" "at" "[I") (List.mem_of_getElem? (i := 2) rfl)
  have lk41 := hts (.fieldLink RX10 41 "PlankNineModel" "row" "[I") (List.mem_of_getElem? (i := 3) rfl)
  have lk56 := hts (.fieldLink RX10 56 "PlankNineModel" "many" "[I") (List.mem_of_getElem? (i := 8) rfl)
  unfold q_X10_listsWays at hf
  refine lv_aload_n hx hb dX10_listsWays_0 rfl (lv_at hl 0 rfl) ?_
  refine va_get (D := D) (ci := 10) (v := .ref (ad 7)) (C := RX10) (T := TX10) (N := 34) hx hb hts hiX10 hown hK hP 0 rfl rfl 14 (by decide) lk28 (fun _ h9 => h9) rfl dX10_listsWays_1 ?_
  refine lv_iconst (v := 3) hx hb dX10_listsWays_4 (by decide) ?_
  refine lv_iload_n hx hb dX10_listsWays_5 rfl (lv_at hl 1 rfl) ?_
  refine lv_imul hx hb dX10_listsWays_6 ?_
  obtain ⟨hin1, hf⟩ := gi_out hf
  refine va_iald hx hb hK hP 7 1 rfl rfl hin1 dX10_listsWays_7 ?_
  obtain ⟨x2_2, ex2_2, hf⟩ := sq_out hf
  refine lv_nmi ex2_2 ?_
  refine lv_istore_n (lv' := [(2, .int x2_2), (0, .ref (ad 0)), (1, .int x1)]) hx hb dX10_listsWays_8 rfl hl (by decide) rfl (fun ls hl => ?_)
  refine lv_iconst (v := 0) hx hb dX10_listsWays_9 (by decide) ?_
  refine lv_istore_n (lv' := [(3, .int 0), (2, .int x2_2), (0, .ref (ad 0)), (1, .int x1)]) hx hb dX10_listsWays_10 rfl hl (by decide) rfl (fun ls hl => ?_)
  refine lv_iconst (v := 0) hx hb dX10_listsWays_11 (by decide) ?_
  refine lv_istore (lv' := [(4, .int 0), (3, .int 0), (2, .int x2_2), (0, .ref (ad 0)), (1, .int x1)]) hx hb dX10_listsWays_12 hl (by decide) rfl (fun ls hl => ?_)
  refine lv_aload_n hx hb dX10_listsWays_14 rfl (lv_at hl 3 rfl) ?_
  refine va_get (D := D) (ci := 10) (v := .ref (ad 12)) (C := RX10) (T := TX10) (N := 34) hx hb hts hiX10 hown hK hP 0 rfl rfl 27 (by decide) lk44 (fun _ h9 => h9) rfl dX10_listsWays_15 ?_
  refine lv_iconst (v := 0) hx hb dX10_listsWays_18 (by decide) ?_
  refine lv_aload_n hx hb dX10_listsWays_19 rfl (lv_at hl 3 rfl) ?_
  refine va_get (D := D) (ci := 10) (v := .ref (ad 7)) (C := RX10) (T := TX10) (N := 34) hx hb hts hiX10 hown hK hP 0 rfl rfl 14 (by decide) lk28 (fun _ h9 => h9) rfl dX10_listsWays_20 ?_
  refine lv_iconst (v := 3) hx hb dX10_listsWays_23 (by decide) ?_
  refine lv_iload_n hx hb dX10_listsWays_24 rfl (lv_at hl 4 rfl) ?_
  refine lv_imul hx hb dX10_listsWays_25 ?_
  refine lv_iconst (v := 1) hx hb dX10_listsWays_26 (by decide) ?_
  refine lv_iadd hx hb dX10_listsWays_27 ?_
  obtain ⟨hin3, hf⟩ := gi_out hf
  refine va_iald hx hb hK hP 7 1 rfl rfl hin3 dX10_listsWays_28 ?_
  obtain ⟨hin4, hf⟩ := gi_out hf
  obtain ⟨f5, ef5, hf⟩ := sq_out hf
  refine va_iast hx hb hK hP (dR hj f t) hS 12 1 rfl rfl hin4 dX10_listsWays_29 (fun H locs hP _ hS => ?_)
  have hP := sR_12 ef5 hP
  refine lv_aload_n hx hb dX10_listsWays_30 rfl (lv_at hl 3 rfl) ?_
  refine va_get (D := D) (ci := 10) (v := .ref (ad 11)) (C := RX10) (T := TX10) (N := 34) hx hb hts hiX10 hown hK hP 0 rfl rfl 26 (by decide) lk41 (fun _ h9 => h9) rfl dX10_listsWays_31 ?_
  refine lv_iconst (v := 0) hx hb dX10_listsWays_34 (by decide) ?_
  refine lv_iconst (v := (-1)) hx hb dX10_listsWays_35 (by decide) ?_
  obtain ⟨hin6, hf⟩ := gi_out hf
  obtain ⟨f7, ef7, hf⟩ := sq_out hf
  refine va_iast hx hb hK hP (dR hj f5 t) hS 11 1 rfl rfl hin6 dX10_listsWays_36 (fun H locs hP _ hS => ?_)
  have hP := sR_11 ef7 hP
  obtain ⟨y48, f49, hlp50, hf⟩ := bi2_out hf
  refine lp_X10_listsWays_37_w C0 hj hR N x1 x2_2 t y48 f49 ?_ N 0 0 f7 hlp50 H locs ls hP hS (lv_sub hl [3, 4, 2, 1, 0] rfl)
  intro H locs ls hP hS hl
  refine lv_aload_n hx hb dX10_listsWays_276 rfl (lv_at hl 0 rfl) ?_
  refine va_get (D := D) (ci := 10) (v := .ref (ad 16)) (C := RX10) (T := TX10) (N := 34) hx hb hts hiX10 hown hK hP 0 rfl rfl 31 (by decide) lk56 (fun _ h9 => h9) rfl dX10_listsWays_277 ?_
  refine lv_iload_n hx hb dX10_listsWays_280 rfl (lv_at hl 1 rfl) ?_
  refine lv_iload_n hx hb dX10_listsWays_281 rfl (lv_at hl 2 rfl) ?_
  obtain ⟨hin51, hf⟩ := gi_out hf
  obtain ⟨f52, ef52, hf⟩ := sq_out hf
  refine va_iast hx hb hK hP (dR hj f49 t) hS 16 1 rfl rfl hin51 dX10_listsWays_282 (fun H locs hP _ hS => ?_)
  have hP := sR_16 ef52 hP
  obtain rfl := Option.some.inj hf
  exact kr H locs ls 283 dX10_listsWays_283 hP hS
set_option maxHeartbeats 4000000 in
set_option maxRecDepth 100000 in
theorem c_X10_listsWays (hj : jR ad) (l : Launch) (N : Nat) (x1 : Int32) (f : mM) (t : Int64) (fR : mM) (hf : q_X10_listsWays N x1 f = some fR) : Met l yX10_listsWays wsX10_listsWays ({ frames := 2, cells := 0, slots := 0, locals := 49 }) (va_Pc ([.ref (ad 0), .int x1]) (pre D cy (wR ad cy) (xR) f t)) (va_Qv (fun (u : mM × Int64) => u = (fR, t)) (atW D (wR ad cy)) (aR ad)) 0 0 (aR ad) := by
  refine Met.ofW (cc := cX10_listsWays) (maxL := 9) (ret := none) (by decide) rfl ?_
  intro p e s m args below meth c s₁ B hml hv
  obtain ⟨rfl, hP, hK, hX0⟩ := hv
  have hl := lv_entry ([.ref (ad 0), .int x1]) (n := 9) (Nat.le_of_ble_eq_true rfl)
  rw [lg_entry_eq]
  generalize (lg_sl ([.ref (ad 0), .int x1]) ++ List.replicate (9 - (lg_sl ([.ref (ad 0), .int x1])).length) Slot.unset).toArray = ls at hl ⊢
  have hlocks := B.notSynchronized
  exact b_X10_listsWays ⟨B.exec, B.bytes, B.returns, hml, findClass_of_methodNamed B.named, atoms_spec (ws := wsX10_listsWays) B.pre, hlocks, hK, hX0⟩ hj ⟨Nat.le_refl _, Nat.le_refl _⟩ N x1 f t fR hf (fun H locs ls pc hd hP hS => W.vret B.exec B.bytes B.returns (fun t2 ht hW => ⟨⟨(fR, t), rfl, rfl, by show va_P D vwCl _ t2.heap; rw [ht]; exact hP⟩, hS.F ht⟩) hS.2.2 hd) s.heap [] ls hP va_S.rf hl
def lp_X10_isBorne_20 (N : Nat) (x1 : Int32) (x2 : Int32) (x4 : Int32) (f : mM) : Nat → Int32 → Int32 → Option (Int32)
  | 0, _, _ => none
  | n + 1, x3, x5 => if (f 0 16) ≤ x5 then some x3 else gi ((1000 * x1) + x2) 3000 (if (((f 14 (Int32.toNatClampNeg ((1000 * x1) + x2))) >>> (x5 &&& 31)) &&& 1) = 1 then gi ((1000 * x1) + x2) 3000 (sq (fun (v7 : Int32) => sq (fun (_ : Unit) => sq (x5 + 1) (fun x5_10 => lp_X10_isBorne_20 N x1 x2 x4 f n 0 x5_10)) (fun k9 => if x3 = 0 then k9 () else gi x5 50 (gi x5 9 (if ((f 8 (Int32.toNatClampNeg x5)) - (f 17 (Int32.toNatClampNeg x5))) ≤ 0 then k9 () else gi x5 50 (gi x5 9 (if ((f 8 (Int32.toNatClampNeg x5)) - (f 17 (Int32.toNatClampNeg x5))) < v7 then k9 () else sq (x5 + 1) (fun x5_15 => lp_X10_isBorne_20 N x1 x2 x4 f n 1 x5_15))))))) (fun k8 => if (((f 15 (Int32.toNatClampNeg ((1000 * x1) + x2))) >>> (x5 &&& 31)) &&& 1) = 1 then k8 x4 else k8 0)) else sq (x5 + 1) (fun x5_5 => lp_X10_isBorne_20 N x1 x2 x4 f n x3 x5_5))
theorem lp_X10_isBorne_20_s (N : Nat) (x1 : Int32) (x2 : Int32) (x4 : Int32) (f : mM) (n : Nat) (x3 : Int32) (x5 : Int32) : lp_X10_isBorne_20 N x1 x2 x4 f (n + 1) x3 x5 = (if (f 0 16) ≤ x5 then some x3 else gi ((1000 * x1) + x2) 3000 (if (((f 14 (Int32.toNatClampNeg ((1000 * x1) + x2))) >>> (x5 &&& 31)) &&& 1) = 1 then gi ((1000 * x1) + x2) 3000 (sq (fun (v7 : Int32) => sq (fun (_ : Unit) => sq (x5 + 1) (fun x5_10 => lp_X10_isBorne_20 N x1 x2 x4 f n 0 x5_10)) (fun k9 => if x3 = 0 then k9 () else gi x5 50 (gi x5 9 (if ((f 8 (Int32.toNatClampNeg x5)) - (f 17 (Int32.toNatClampNeg x5))) ≤ 0 then k9 () else gi x5 50 (gi x5 9 (if ((f 8 (Int32.toNatClampNeg x5)) - (f 17 (Int32.toNatClampNeg x5))) < v7 then k9 () else sq (x5 + 1) (fun x5_15 => lp_X10_isBorne_20 N x1 x2 x4 f n 1 x5_15))))))) (fun k8 => if (((f 15 (Int32.toNatClampNeg ((1000 * x1) + x2))) >>> (x5 &&& 31)) &&& 1) = 1 then k8 x4 else k8 0)) else sq (x5 + 1) (fun x5_5 => lp_X10_isBorne_20 N x1 x2 x4 f n x3 x5_5))) := rfl
set_option maxHeartbeats 4000000 in
set_option maxRecDepth 100000 in
theorem lp_X10_isBorne_20_w (C0 : cX p s m args meth c cX10_isBorne 7 (some .boolean) RX10 wsX10_isBorne D cy (xR)) (hj : jR ad) (hR : 0 ≤ R.frames ∧ 0 ≤ R.locals) (N : Nat) (x1 : Int32) (x2 : Int32) (x4 : Int32) (f : mM) (t : Int64) (r3 : Int32) (kx133 : ∀ (H : Heap) (locs : List Loc) (ls : Array Slot), va_P D vwCl (wR ad cy f t) H → va_S (aR ad) s.heap H locs → lv_has ls 7 [(3, .int r3)] → W p l e R s m args below meth c H locs 0 0 Q (F0 m 133 ls [])) : ∀ (n : Nat) (x3 : Int32) (x5 : Int32), lp_X10_isBorne_20 N x1 x2 x4 f n x3 x5 = some r3 → ∀ (H : Heap) (locs : List Loc) (ls : Array Slot), va_P D vwCl (wR ad cy f t) H → va_S (aR ad) s.heap H locs → lv_has ls 7 [(0, .ref (ad 0)), (1, .int x1), (2, .int x2), (3, .int x3), (4, .int x4), (5, .int x5)] → W p l e R s m args below meth c H locs 0 0 Q (F0 m 20 ls []) := by
  obtain ⟨hx, hb, hr, hml, hown, hts, hlocks, hK, hX0⟩ := id C0
  have lk148 := hts (.fieldLink RX10 148 "PlankNineModel" "planks" "I") (List.mem_of_getElem? (i := 3) rfl)
  have hiX10 : ∀ w ∈ u_ws RX10 TX10 34, w ∈ wsX10_isBorne := fun w h => List.mem_cons_of_mem _ (List.mem_append_right _ h)
  have lk50 := hts (.fieldLink RX10 50 "PlankNineModel" "gone" "[I") (List.mem_of_getElem? (i := 4) rfl)
  have lk53 := hts (.fieldLink RX10 53 "PlankNineModel" "trodden" "[I") (List.mem_of_getElem? (i := 5) rfl)
  have lk31 := hts (.fieldLink RX10 31 "PlankNineModel" "s" "[I") (List.mem_of_getElem? (i := 6) rfl)
  have lk59 := hts (.fieldLink RX10 59 "PlankNineModel" "load" "[I") (List.mem_of_getElem? (i := 7) rfl)
  intro n
  induction n with
  | zero =>
    intro x3 x5 hf
    exact no_none hf
  | succ n ih =>
    intro x3 x5 hf H locs ls hP hS hl
    have hf := (lp_X10_isBorne_20_s N x1 x2 x4 f n x3 x5).symm.trans hf
    refine lv_iload hx hb dX10_isBorne_20 (lv_at hl 5 rfl) ?_
    refine lv_aload_n hx hb dX10_isBorne_22 rfl (lv_at hl 0 rfl) ?_
    refine va_get (D := D) (ci := 10) (v := .int (f 0 16)) (C := RX10) (T := TX10) (N := 34) hx hb hts hiX10 hown hK hP 0 rfl rfl 16 (by decide) lk148 (fun _ h9 => h9) rfl dX10_isBorne_23 ?_
    refine lv_icmp_ge (tgt := 133) hx hb dX10_isBorne_26 (by decide) (fun c26 => ?_) (fun c26 => ?_)
    · have hf := itT hf c26
      obtain rfl := Option.some.inj hf
      exact kx133 H locs ls hP hS (lv_sub hl [3] rfl)
    · have hf := itF hf c26
      refine lv_aload_n hx hb dX10_isBorne_29 rfl (lv_at hl 0 rfl) ?_
      refine va_get (D := D) (ci := 10) (v := .ref (ad 14)) (C := RX10) (T := TX10) (N := 34) hx hb hts hiX10 hown hK hP 0 rfl rfl 29 (by decide) lk50 (fun _ h9 => h9) rfl dX10_isBorne_30 ?_
      refine lv_sipush (v := 1000) hx hb dX10_isBorne_33 (by decide) ?_
      refine lv_iload_n hx hb dX10_isBorne_36 rfl (lv_at hl 1 rfl) ?_
      refine lv_imul hx hb dX10_isBorne_37 ?_
      refine lv_iload_n hx hb dX10_isBorne_38 rfl (lv_at hl 2 rfl) ?_
      refine lv_iadd hx hb dX10_isBorne_39 ?_
      obtain ⟨hin4, hf⟩ := gi_out hf
      refine va_iald hx hb hK hP 14 1 rfl rfl hin4 dX10_isBorne_40 ?_
      refine lv_iload hx hb dX10_isBorne_41 (lv_at hl 5 rfl) ?_
      refine lv_ishr hx hb dX10_isBorne_43 ?_
      refine lv_iconst (v := 1) hx hb dX10_isBorne_44 (by decide) ?_
      refine lv_iand hx hb dX10_isBorne_45 ?_
      refine lv_iconst (v := 1) hx hb dX10_isBorne_46 (by decide) ?_
      refine lv_icmp_ne (tgt := 127) hx hb dX10_isBorne_47 (by decide) (fun c47 => ?_) (fun c47 => ?_)
      · have hf := itF hf c47
        obtain ⟨x5_5, ex5_5, hf⟩ := sq_out hf
        refine lv_iinc (v := x5_5) (lv' := [(5, .int x5_5), (0, .ref (ad 0)), (1, .int x1), (2, .int x2), (3, .int x3), (4, .int x4)]) hx hb dX10_isBorne_127 hl (k := 5) rfl (by rw [ex5_5]; rfl) (by decide) rfl (fun ls hl => ?_)
        refine lv_goto (tgt := 20) hx hb dX10_isBorne_130 (by decide) ?_
        exact ih x3 x5_5 hf H locs ls hP hS (lv_sub hl [1, 2, 3, 4, 5, 0] rfl)
      · have hf := itT hf c47
        refine lv_aload_n hx hb dX10_isBorne_50 rfl (lv_at hl 0 rfl) ?_
        refine va_get (D := D) (ci := 10) (v := .ref (ad 15)) (C := RX10) (T := TX10) (N := 34) hx hb hts hiX10 hown hK hP 0 rfl rfl 30 (by decide) lk53 (fun _ h9 => h9) rfl dX10_isBorne_51 ?_
        refine lv_sipush (v := 1000) hx hb dX10_isBorne_54 (by decide) ?_
        refine lv_iload_n hx hb dX10_isBorne_57 rfl (lv_at hl 1 rfl) ?_
        refine lv_imul hx hb dX10_isBorne_58 ?_
        refine lv_iload_n hx hb dX10_isBorne_59 rfl (lv_at hl 2 rfl) ?_
        refine lv_iadd hx hb dX10_isBorne_60 ?_
        obtain ⟨hin6, hf⟩ := gi_out hf
        refine va_iald hx hb hK hP 15 1 rfl rfl hin6 dX10_isBorne_61 ?_
        refine lv_iload hx hb dX10_isBorne_62 (lv_at hl 5 rfl) ?_
        refine lv_ishr hx hb dX10_isBorne_64 ?_
        refine lv_iconst (v := 1) hx hb dX10_isBorne_65 (by decide) ?_
        refine lv_iand hx hb dX10_isBorne_66 ?_
        refine lv_iconst (v := 1) hx hb dX10_isBorne_67 (by decide) ?_
        obtain ⟨k8, ek8, hf⟩ := sq_out hf
        have hk8 : ∀ (v7 : Int32), k8 v7 = some r3 → ∀ (H : Heap) (locs : List Loc) (ls : Array Slot), va_P D vwCl (wR ad cy f t) H → va_S (aR ad) s.heap H locs → lv_has ls 7 [(0, .ref (ad 0)), (1, .int x1), (2, .int x2), (3, .int x3), (4, .int x4), (5, .int x5)] → W p l e R s m args below meth c H locs 0 0 Q (F0 m 77 ls [.int v7]) := by
          intro v7 hf H locs ls hP hS hl
          have hf := sk1 ek8 v7 hf
          refine lv_istore (lv' := [(6, .int v7), (0, .ref (ad 0)), (1, .int x1), (2, .int x2), (3, .int x3), (4, .int x4), (5, .int x5)]) hx hb dX10_isBorne_77 hl (by decide) rfl (fun ls hl => ?_)
          refine lv_iload_n hx hb dX10_isBorne_79 rfl (lv_at hl 4 rfl) ?_
          obtain ⟨k9, ek9, hf⟩ := sq_out hf
          have hk9 : k9 () = some r3 → ∀ (H : Heap) (locs : List Loc) (ls : Array Slot), va_P D vwCl (wR ad cy f t) H → va_S (aR ad) s.heap H locs → lv_has ls 7 [(0, .ref (ad 0)), (1, .int x1), (2, .int x2), (4, .int x4), (5, .int x5)] → W p l e R s m args below meth c H locs 0 0 Q (F0 m 125 ls []) := by
            intro hf H locs ls hP hS hl
            have hf := sk1 ek9 () hf
            refine lv_iconst (v := 0) hx hb dX10_isBorne_125 (by decide) ?_
            refine lv_istore_n (lv' := [(3, .int 0), (0, .ref (ad 0)), (1, .int x1), (2, .int x2), (4, .int x4), (5, .int x5)]) hx hb dX10_isBorne_126 rfl hl (by decide) rfl (fun ls hl => ?_)
            obtain ⟨x5_10, ex5_10, hf⟩ := sq_out hf
            refine lv_iinc (v := x5_10) (lv' := [(5, .int x5_10), (3, .int 0), (0, .ref (ad 0)), (1, .int x1), (2, .int x2), (4, .int x4)]) hx hb dX10_isBorne_127 hl (k := 5) rfl (by rw [ex5_10]; rfl) (by decide) rfl (fun ls hl => ?_)
            refine lv_goto (tgt := 20) hx hb dX10_isBorne_130 (by decide) ?_
            exact ih 0 x5_10 hf H locs ls hP hS (lv_sub hl [2, 3, 4, 1, 5, 0] rfl)
          refine lv_if_eq (tgt := 125) hx hb dX10_isBorne_80 (by decide) (fun c80 => ?_) (fun c80 => ?_)
          · have hf := itT hf c80
            exact hk9 hf H locs ls hP hS (lv_sub hl [1, 2, 3, 5, 6] rfl)
          · have hf := itF hf c80
            refine lv_aload_n hx hb dX10_isBorne_83 rfl (lv_at hl 1 rfl) ?_
            refine va_get (D := D) (ci := 10) (v := .ref (ad 8)) (C := RX10) (T := TX10) (N := 34) hx hb hts hiX10 hown hK hP 0 rfl rfl 23 (by decide) lk31 (fun _ h9 => h9) rfl dX10_isBorne_84 ?_
            refine lv_iload hx hb dX10_isBorne_87 (lv_at hl 6 rfl) ?_
            obtain ⟨hin11, hf⟩ := gi_out hf
            refine va_iald hx hb hK hP 8 1 rfl rfl hin11 dX10_isBorne_89 ?_
            refine lv_aload_n hx hb dX10_isBorne_90 rfl (lv_at hl 1 rfl) ?_
            refine va_get (D := D) (ci := 10) (v := .ref (ad 17)) (C := RX10) (T := TX10) (N := 34) hx hb hts hiX10 hown hK hP 0 rfl rfl 32 (by decide) lk59 (fun _ h9 => h9) rfl dX10_isBorne_91 ?_
            refine lv_iload hx hb dX10_isBorne_94 (lv_at hl 6 rfl) ?_
            obtain ⟨hin12, hf⟩ := gi_out hf
            refine va_iald hx hb hK hP 17 1 rfl rfl hin12 dX10_isBorne_96 ?_
            refine lv_isub hx hb dX10_isBorne_97 ?_
            refine lv_if_le (tgt := 125) hx hb dX10_isBorne_98 (by decide) (fun c98 => ?_) (fun c98 => ?_)
            · have hf := itT hf c98
              exact hk9 hf H locs ls hP hS (lv_sub hl [1, 2, 3, 5, 6] rfl)
            · have hf := itF hf c98
              refine lv_aload_n hx hb dX10_isBorne_101 rfl (lv_at hl 1 rfl) ?_
              refine va_get (D := D) (ci := 10) (v := .ref (ad 8)) (C := RX10) (T := TX10) (N := 34) hx hb hts hiX10 hown hK hP 0 rfl rfl 23 (by decide) lk31 (fun _ h9 => h9) rfl dX10_isBorne_102 ?_
              refine lv_iload hx hb dX10_isBorne_105 (lv_at hl 6 rfl) ?_
              obtain ⟨hin13, hf⟩ := gi_out hf
              refine va_iald hx hb hK hP 8 1 rfl rfl hin13 dX10_isBorne_107 ?_
              refine lv_aload_n hx hb dX10_isBorne_108 rfl (lv_at hl 1 rfl) ?_
              refine va_get (D := D) (ci := 10) (v := .ref (ad 17)) (C := RX10) (T := TX10) (N := 34) hx hb hts hiX10 hown hK hP 0 rfl rfl 32 (by decide) lk59 (fun _ h9 => h9) rfl dX10_isBorne_109 ?_
              refine lv_iload hx hb dX10_isBorne_112 (lv_at hl 6 rfl) ?_
              obtain ⟨hin14, hf⟩ := gi_out hf
              refine va_iald hx hb hK hP 17 1 rfl rfl hin14 dX10_isBorne_114 ?_
              refine lv_isub hx hb dX10_isBorne_115 ?_
              refine lv_iload hx hb dX10_isBorne_116 (lv_at hl 0 rfl) ?_
              refine lv_icmp_lt (tgt := 125) hx hb dX10_isBorne_118 (by decide) (fun c118 => ?_) (fun c118 => ?_)
              · have hf := itT hf c118
                exact hk9 hf H locs ls hP hS (lv_sub hl [1, 2, 3, 5, 6] rfl)
              · have hf := itF hf c118
                refine lv_iconst (v := 1) hx hb dX10_isBorne_121 (by decide) ?_
                refine lv_goto (tgt := 126) hx hb dX10_isBorne_122 (by decide) ?_
                refine lv_istore_n (lv' := [(3, .int 1), (6, .int v7), (0, .ref (ad 0)), (1, .int x1), (2, .int x2), (4, .int x4), (5, .int x5)]) hx hb dX10_isBorne_126 rfl hl (by decide) rfl (fun ls hl => ?_)
                obtain ⟨x5_15, ex5_15, hf⟩ := sq_out hf
                refine lv_iinc (v := x5_15) (lv' := [(5, .int x5_15), (3, .int 1), (6, .int v7), (0, .ref (ad 0)), (1, .int x1), (2, .int x2), (4, .int x4)]) hx hb dX10_isBorne_127 hl (k := 6) rfl (by rw [ex5_15]; rfl) (by decide) rfl (fun ls hl => ?_)
                refine lv_goto (tgt := 20) hx hb dX10_isBorne_130 (by decide) ?_
                exact ih 1 x5_15 hf H locs ls hP hS (lv_sub hl [3, 4, 5, 1, 6, 0] rfl)
        refine lv_icmp_ne (tgt := 76) hx hb dX10_isBorne_68 (by decide) (fun c68 => ?_) (fun c68 => ?_)
        · have hf := itF hf c68
          refine lv_iconst (v := 0) hx hb dX10_isBorne_76 (by decide) ?_
          exact hk8 0 hf H locs ls hP hS (lv_sub hl [0, 1, 2, 3, 4, 5] rfl)
        · have hf := itT hf c68
          refine lv_iload hx hb dX10_isBorne_71 (lv_at hl 4 rfl) ?_
          refine lv_goto (tgt := 77) hx hb dX10_isBorne_73 (by decide) ?_
          exact hk8 x4 hf H locs ls hP hS (lv_sub hl [0, 1, 2, 3, 4, 5] rfl)
def q_X10_isBorne (N : Nat) (x1 : Int32) (x2 : Int32) (f : mM) : Option (Int32) := gi (3 * x1) 18 (gi (f 7 (Int32.toNatClampNeg (3 * x1))) 8 (sq (f 5 (Int32.toNatClampNeg (f 7 (Int32.toNatClampNeg (3 * x1))))) (fun x4_3 => bi (lp_X10_isBorne_20 N x1 x2 x4_3 f N 1 0) (fun y16 => rz y16 (some y16)))))
set_option maxHeartbeats 4000000 in
set_option maxRecDepth 100000 in
theorem b_X10_isBorne (C0 : cX p s m args meth c cX10_isBorne 7 (some .boolean) RX10 wsX10_isBorne D cy (xR)) (hj : jR ad) (hR : 0 ≤ R.frames ∧ 0 ≤ R.locals) (N : Nat) (x1 : Int32) (x2 : Int32) (f : mM) (t : Int64) (r : Int32) (hf : q_X10_isBorne N x1 x2 f = some r) (kr : ∀ (H : Heap) (locs : List Loc) (ls : Array Slot) (pc : Nat), decode cX10_isBorne pc = .ok (.ireturn, 1) → narrow .boolean (.int r) = .int r → va_P D vwCl (wR ad cy f t) H → va_S (aR ad) s.heap H locs → W p l e R s m args below meth c H locs 0 0 Q (F0 m pc ls [.int r])) (H : Heap) (locs : List Loc) (ls : Array Slot) (hP : va_P D vwCl (wR ad cy f t) H) (hS : va_S (aR ad) s.heap H locs) (hl : lv_has ls 7 [(0, .ref (ad 0)), (1, .int x1), (2, .int x2)]) : W p l e R s m args below meth c H locs 0 0 Q (F0 m 0 ls []) := by
  obtain ⟨hx, hb, hr, hml, hown, hts, hlocks, hK, hX0⟩ := id C0
  have lk22 := hts (.fieldLink RX10 22 "PlankNineModel" "weight" "[I") (List.mem_of_getElem? (i := 1) rfl)
  have hiX10 : ∀ w ∈ u_ws RX10 TX10 34, w ∈ wsX10_isBorne := fun w h => List.mem_cons_of_mem _ (List.mem_append_right _ h)
  have lk28 := hts (.fieldLink RX10 28 "PlankNineModel" "errands" "[I") (List.mem_of_getElem? (i := 2) rfl)
  unfold q_X10_isBorne at hf
  refine lv_iconst (v := 1) hx hb dX10_isBorne_0 (by decide) ?_
  refine lv_istore_n (lv' := [(3, .int 1), (0, .ref (ad 0)), (1, .int x1), (2, .int x2)]) hx hb dX10_isBorne_1 rfl hl (by decide) rfl (fun ls hl => ?_)
  refine lv_aload_n hx hb dX10_isBorne_2 rfl (lv_at hl 1 rfl) ?_
  refine va_get (D := D) (ci := 10) (v := .ref (ad 5)) (C := RX10) (T := TX10) (N := 34) hx hb hts hiX10 hown hK hP 0 rfl rfl 12 (by decide) lk22 (fun _ h9 => h9) rfl dX10_isBorne_3 ?_
  refine lv_aload_n hx hb dX10_isBorne_6 rfl (lv_at hl 1 rfl) ?_
  refine va_get (D := D) (ci := 10) (v := .ref (ad 7)) (C := RX10) (T := TX10) (N := 34) hx hb hts hiX10 hown hK hP 0 rfl rfl 14 (by decide) lk28 (fun _ h9 => h9) rfl dX10_isBorne_7 ?_
  refine lv_iconst (v := 3) hx hb dX10_isBorne_10 (by decide) ?_
  refine lv_iload_n hx hb dX10_isBorne_11 rfl (lv_at hl 2 rfl) ?_
  refine lv_imul hx hb dX10_isBorne_12 ?_
  obtain ⟨hin1, hf⟩ := gi_out hf
  refine va_iald hx hb hK hP 7 1 rfl rfl hin1 dX10_isBorne_13 ?_
  obtain ⟨hin2, hf⟩ := gi_out hf
  refine va_iald hx hb hK hP 5 1 rfl rfl hin2 dX10_isBorne_14 ?_
  obtain ⟨x4_3, ex4_3, hf⟩ := sq_out hf
  refine lv_nmi ex4_3 ?_
  refine lv_istore (lv' := [(4, .int x4_3), (3, .int 1), (0, .ref (ad 0)), (1, .int x1), (2, .int x2)]) hx hb dX10_isBorne_15 hl (by decide) rfl (fun ls hl => ?_)
  refine lv_iconst (v := 0) hx hb dX10_isBorne_17 (by decide) ?_
  refine lv_istore (lv' := [(5, .int 0), (4, .int x4_3), (3, .int 1), (0, .ref (ad 0)), (1, .int x1), (2, .int x2)]) hx hb dX10_isBorne_18 hl (by decide) rfl (fun ls hl => ?_)
  obtain ⟨y16, hlp17, hf⟩ := bi_out hf
  refine lp_X10_isBorne_20_w C0 hj hR N x1 x2 x4_3 f t y16 ?_ N 1 0 hlp17 H locs ls hP hS (lv_sub hl [3, 4, 5, 2, 1, 0] rfl)
  intro H locs ls hP hS hl
  refine lv_iload_n hx hb dX10_isBorne_133 rfl (lv_at hl 0 rfl) ?_
  obtain ⟨hz, hf⟩ := rz_out hf
  obtain rfl := Option.some.inj hf
  exact kr H locs ls 134 dX10_isBorne_134 hz hP hS
set_option maxHeartbeats 4000000 in
set_option maxRecDepth 100000 in
theorem c_X10_isBorne (hj : jR ad) (l : Launch) (N : Nat) (x1 : Int32) (x2 : Int32) (f : mM) (t : Int64) (r : Int32) (hf : q_X10_isBorne N x1 x2 f = some r) : Met l yX10_isBorne wsX10_isBorne ({ frames := 0, cells := 0, slots := 0, locals := 0 }) (va_Pc ([.ref (ad 0), .int x1, .int x2]) (pre D cy (wR ad cy) (xR) f t)) (va_Qi (fun (r2 : Int32) (u : mM × Int64) => r2 = r ∧ u = (f, t)) (atW D (wR ad cy)) (aR ad)) 0 0 (aR ad) := by
  refine Met.ofW (cc := cX10_isBorne) (maxL := 7) (ret := (some .boolean)) (by decide) rfl ?_
  intro p e s m args below meth c s₁ B hml hv
  obtain ⟨rfl, hP, hK, hX0⟩ := hv
  have hl := lv_entry ([.ref (ad 0), .int x1, .int x2]) (n := 7) (Nat.le_of_ble_eq_true rfl)
  rw [lg_entry_eq]
  generalize (lg_sl ([.ref (ad 0), .int x1, .int x2]) ++ List.replicate (7 - (lg_sl ([.ref (ad 0), .int x1, .int x2])).length) Slot.unset).toArray = ls at hl ⊢
  have hlocks := B.notSynchronized
  exact b_X10_isBorne ⟨B.exec, B.bytes, B.returns, hml, findClass_of_methodNamed B.named, atoms_spec (ws := wsX10_isBorne) B.pre, hlocks, hK, hX0⟩ hj ⟨Nat.le_refl _, Nat.le_refl _⟩ N x1 x2 f t r hf (fun H locs ls pc hd hz hP hS => W.zret B.exec B.bytes B.returns hz (fun t2 ht hW => ⟨⟨r, (f, t), rfl, ⟨rfl, rfl⟩, by show va_P D vwCl _ t2.heap; rw [ht]; exact hP⟩, hS.F ht⟩) hS.2.2 hd) s.heap [] ls hP va_S.rf hl
def lp_X10_loads_3 (N : Nat) (x1 : Int32) (x2 : Int32) (x3 : Int32) : Nat → Int32 → mM → Option (mM)
  | 0, _, _ => none
  | n + 1, x4, f => if (f 0 16) ≤ x4 then some f else gi x4 9 (gi ((1000 * x1) + x2) 3000 (sq (fun (v3 : Int32) => gi x4 9 (sq (st2 f 17 (Int32.toNatClampNeg x4) ((f 17 (Int32.toNatClampNeg x4)) + v3)) (fun f6 => sq (x4 + 1) (fun x4_7 => lp_X10_loads_3 N x1 x2 x3 n x4_7 f6)))) (fun k4 => if (((f 15 (Int32.toNatClampNeg ((1000 * x1) + x2))) >>> (x4 &&& 31)) &&& 1) = 1 then gi (3 * x1) 18 (gi (f 7 (Int32.toNatClampNeg (3 * x1))) 8 (k4 (x3 * (f 5 (Int32.toNatClampNeg (f 7 (Int32.toNatClampNeg (3 * x1)))))))) else k4 0)))
theorem lp_X10_loads_3_s (N : Nat) (x1 : Int32) (x2 : Int32) (x3 : Int32) (n : Nat) (x4 : Int32) (f : mM) : lp_X10_loads_3 N x1 x2 x3 (n + 1) x4 f = (if (f 0 16) ≤ x4 then some f else gi x4 9 (gi ((1000 * x1) + x2) 3000 (sq (fun (v3 : Int32) => gi x4 9 (sq (st2 f 17 (Int32.toNatClampNeg x4) ((f 17 (Int32.toNatClampNeg x4)) + v3)) (fun f6 => sq (x4 + 1) (fun x4_7 => lp_X10_loads_3 N x1 x2 x3 n x4_7 f6)))) (fun k4 => if (((f 15 (Int32.toNatClampNeg ((1000 * x1) + x2))) >>> (x4 &&& 31)) &&& 1) = 1 then gi (3 * x1) 18 (gi (f 7 (Int32.toNatClampNeg (3 * x1))) 8 (k4 (x3 * (f 5 (Int32.toNatClampNeg (f 7 (Int32.toNatClampNeg (3 * x1)))))))) else k4 0)))) := rfl
set_option maxHeartbeats 4000000 in
set_option maxRecDepth 100000 in
theorem lp_X10_loads_3_w (C0 : cX p s m args meth c cX10_loads 5 none RX10 wsX10_loads D cy (xR)) (hj : jR ad) (hR : 0 ≤ R.frames ∧ 0 ≤ R.locals) (N : Nat) (x1 : Int32) (x2 : Int32) (x3 : Int32) (t : Int64) (fR : mM) (kx68 : ∀ (H : Heap) (locs : List Loc) (ls : Array Slot), va_P D vwCl (wR ad cy fR t) H → va_S (aR ad) s.heap H locs → lv_has ls 5 [] → W p l e R s m args below meth c H locs 0 0 Q (F0 m 68 ls [])) : ∀ (n : Nat) (x4 : Int32) (f : mM), lp_X10_loads_3 N x1 x2 x3 n x4 f = some fR → ∀ (H : Heap) (locs : List Loc) (ls : Array Slot), va_P D vwCl (wR ad cy f t) H → va_S (aR ad) s.heap H locs → lv_has ls 5 [(0, .ref (ad 0)), (1, .int x1), (2, .int x2), (3, .int x3), (4, .int x4)] → W p l e R s m args below meth c H locs 0 0 Q (F0 m 3 ls []) := by
  obtain ⟨hx, hb, hr, hml, hown, hts, hlocks, hK, hX0⟩ := id C0
  have lk148 := hts (.fieldLink RX10 148 "PlankNineModel" "planks" "I") (List.mem_of_getElem? (i := 1) rfl)
  have hiX10 : ∀ w ∈ u_ws RX10 TX10 34, w ∈ wsX10_loads := fun w h => List.mem_cons_of_mem _ (List.mem_append_right _ h)
  have lk59 := hts (.fieldLink RX10 59 "PlankNineModel" "load" "[I") (List.mem_of_getElem? (i := 2) rfl)
  have lk53 := hts (.fieldLink RX10 53 "PlankNineModel" "trodden" "[I") (List.mem_of_getElem? (i := 3) rfl)
  have lk22 := hts (.fieldLink RX10 22 "PlankNineModel" "weight" "[I") (List.mem_of_getElem? (i := 4) rfl)
  have lk28 := hts (.fieldLink RX10 28 "PlankNineModel" "errands" "[I") (List.mem_of_getElem? (i := 5) rfl)
  intro n
  induction n with
  | zero =>
    intro x4 f hf
    exact no_none hf
  | succ n ih =>
    intro x4 f hf H locs ls hP hS hl
    have hf := (lp_X10_loads_3_s N x1 x2 x3 n x4 f).symm.trans hf
    refine lv_iload hx hb dX10_loads_3 (lv_at hl 4 rfl) ?_
    refine lv_aload_n hx hb dX10_loads_5 rfl (lv_at hl 0 rfl) ?_
    refine va_get (D := D) (ci := 10) (v := .int (f 0 16)) (C := RX10) (T := TX10) (N := 34) hx hb hts hiX10 hown hK hP 0 rfl rfl 16 (by decide) lk148 (fun _ h9 => h9) rfl dX10_loads_6 ?_
    refine lv_icmp_ge (tgt := 68) hx hb dX10_loads_9 (by decide) (fun c9 => ?_) (fun c9 => ?_)
    · have hf := itT hf c9
      obtain rfl := Option.some.inj hf
      exact kx68 H locs ls hP hS (lv_sub hl [] rfl)
    · have hf := itF hf c9
      refine lv_aload_n hx hb dX10_loads_12 rfl (lv_at hl 0 rfl) ?_
      refine va_get (D := D) (ci := 10) (v := .ref (ad 17)) (C := RX10) (T := TX10) (N := 34) hx hb hts hiX10 hown hK hP 0 rfl rfl 32 (by decide) lk59 (fun _ h9 => h9) rfl dX10_loads_13 ?_
      refine lv_iload hx hb dX10_loads_16 (lv_at hl 4 rfl) ?_
      refine lv_dup2_11 hx hb dX10_loads_18 rfl rfl ?_
      obtain ⟨hin1, hf⟩ := gi_out hf
      refine va_iald hx hb hK hP 17 1 rfl rfl hin1 dX10_loads_19 ?_
      refine lv_aload_n hx hb dX10_loads_20 rfl (lv_at hl 0 rfl) ?_
      refine va_get (D := D) (ci := 10) (v := .ref (ad 15)) (C := RX10) (T := TX10) (N := 34) hx hb hts hiX10 hown hK hP 0 rfl rfl 30 (by decide) lk53 (fun _ h9 => h9) rfl dX10_loads_21 ?_
      refine lv_sipush (v := 1000) hx hb dX10_loads_24 (by decide) ?_
      refine lv_iload_n hx hb dX10_loads_27 rfl (lv_at hl 1 rfl) ?_
      refine lv_imul hx hb dX10_loads_28 ?_
      refine lv_iload_n hx hb dX10_loads_29 rfl (lv_at hl 2 rfl) ?_
      refine lv_iadd hx hb dX10_loads_30 ?_
      obtain ⟨hin2, hf⟩ := gi_out hf
      refine va_iald hx hb hK hP 15 1 rfl rfl hin2 dX10_loads_31 ?_
      refine lv_iload hx hb dX10_loads_32 (lv_at hl 4 rfl) ?_
      refine lv_ishr hx hb dX10_loads_34 ?_
      refine lv_iconst (v := 1) hx hb dX10_loads_35 (by decide) ?_
      refine lv_iand hx hb dX10_loads_36 ?_
      refine lv_iconst (v := 1) hx hb dX10_loads_37 (by decide) ?_
      obtain ⟨k4, ek4, hf⟩ := sq_out hf
      have hk4 : ∀ (v3 : Int32), k4 v3 = some fR → ∀ (H : Heap) (locs : List Loc) (ls : Array Slot), va_P D vwCl (wR ad cy f t) H → va_S (aR ad) s.heap H locs → lv_has ls 5 [(0, .ref (ad 0)), (1, .int x1), (2, .int x2), (3, .int x3), (4, .int x4)] → W p l e R s m args below meth c H locs 0 0 Q (F0 m 60 ls [.int v3, .int (f 17 (Int32.toNatClampNeg x4)), .int x4, .ref (ad 17)]) := by
        intro v3 hf H locs ls hP hS hl
        have hf := sk1 ek4 v3 hf
        refine lv_iadd hx hb dX10_loads_60 ?_
        obtain ⟨hin5, hf⟩ := gi_out hf
        obtain ⟨f6, ef6, hf⟩ := sq_out hf
        refine va_iast hx hb hK hP (dR hj f t) hS 17 1 rfl rfl hin5 dX10_loads_61 (fun H locs hP _ hS => ?_)
        have hP := sR_17 ef6 hP
        obtain ⟨x4_7, ex4_7, hf⟩ := sq_out hf
        refine lv_iinc (v := x4_7) (lv' := [(4, .int x4_7), (0, .ref (ad 0)), (1, .int x1), (2, .int x2), (3, .int x3)]) hx hb dX10_loads_62 hl (k := 4) rfl (by rw [ex4_7]; rfl) (by decide) rfl (fun ls hl => ?_)
        refine lv_goto (tgt := 3) hx hb dX10_loads_65 (by decide) ?_
        exact ih x4_7 f6 hf H locs ls hP hS (lv_sub hl [1, 2, 3, 4, 0] rfl)
      refine lv_icmp_ne (tgt := 59) hx hb dX10_loads_38 (by decide) (fun c38 => ?_) (fun c38 => ?_)
      · have hf := itF hf c38
        refine lv_iconst (v := 0) hx hb dX10_loads_59 (by decide) ?_
        exact hk4 0 hf H locs ls hP hS (lv_sub hl [0, 1, 2, 3, 4] rfl)
      · have hf := itT hf c38
        refine lv_iload_n hx hb dX10_loads_41 rfl (lv_at hl 3 rfl) ?_
        refine lv_aload_n hx hb dX10_loads_42 rfl (lv_at hl 0 rfl) ?_
        refine va_get (D := D) (ci := 10) (v := .ref (ad 5)) (C := RX10) (T := TX10) (N := 34) hx hb hts hiX10 hown hK hP 0 rfl rfl 12 (by decide) lk22 (fun _ h9 => h9) rfl dX10_loads_43 ?_
        refine lv_aload_n hx hb dX10_loads_46 rfl (lv_at hl 0 rfl) ?_
        refine va_get (D := D) (ci := 10) (v := .ref (ad 7)) (C := RX10) (T := TX10) (N := 34) hx hb hts hiX10 hown hK hP 0 rfl rfl 14 (by decide) lk28 (fun _ h9 => h9) rfl dX10_loads_47 ?_
        refine lv_iconst (v := 3) hx hb dX10_loads_50 (by decide) ?_
        refine lv_iload_n hx hb dX10_loads_51 rfl (lv_at hl 1 rfl) ?_
        refine lv_imul hx hb dX10_loads_52 ?_
        obtain ⟨hin8, hf⟩ := gi_out hf
        refine va_iald hx hb hK hP 7 1 rfl rfl hin8 dX10_loads_53 ?_
        obtain ⟨hin9, hf⟩ := gi_out hf
        refine va_iald hx hb hK hP 5 1 rfl rfl hin9 dX10_loads_54 ?_
        refine lv_imul hx hb dX10_loads_55 ?_
        refine lv_goto (tgt := 60) hx hb dX10_loads_56 (by decide) ?_
        exact hk4 _ hf H locs ls hP hS (lv_sub hl [0, 1, 2, 3, 4] rfl)
def q_X10_loads (N : Nat) (x1 : Int32) (x2 : Int32) (x3 : Int32) (f : mM) : Option (mM) := bi (lp_X10_loads_3 N x1 x2 x3 N 0 f) (fun f10 => some f10)
set_option maxHeartbeats 4000000 in
set_option maxRecDepth 100000 in
theorem b_X10_loads (C0 : cX p s m args meth c cX10_loads 5 none RX10 wsX10_loads D cy (xR)) (hj : jR ad) (hR : 0 ≤ R.frames ∧ 0 ≤ R.locals) (N : Nat) (x1 : Int32) (x2 : Int32) (x3 : Int32) (f : mM) (t : Int64) (fR : mM) (hf : q_X10_loads N x1 x2 x3 f = some fR) (kr : ∀ (H : Heap) (locs : List Loc) (ls : Array Slot) (pc : Nat), decode cX10_loads pc = .ok (.return_, 1) → va_P D vwCl (wR ad cy fR t) H → va_S (aR ad) s.heap H locs → W p l e R s m args below meth c H locs 0 0 Q (F0 m pc ls [])) (H : Heap) (locs : List Loc) (ls : Array Slot) (hP : va_P D vwCl (wR ad cy f t) H) (hS : va_S (aR ad) s.heap H locs) (hl : lv_has ls 5 [(0, .ref (ad 0)), (1, .int x1), (2, .int x2), (3, .int x3)]) : W p l e R s m args below meth c H locs 0 0 Q (F0 m 0 ls []) := by
  obtain ⟨hx, hb, hr, hml, hown, hts, hlocks, hK, hX0⟩ := id C0
  unfold q_X10_loads at hf
  refine lv_iconst (v := 0) hx hb dX10_loads_0 (by decide) ?_
  refine lv_istore (lv' := [(4, .int 0), (0, .ref (ad 0)), (1, .int x1), (2, .int x2), (3, .int x3)]) hx hb dX10_loads_1 hl (by decide) rfl (fun ls hl => ?_)
  obtain ⟨f10, hlp11, hf⟩ := bi_out hf
  refine lp_X10_loads_3_w C0 hj hR N x1 x2 x3 t f10 ?_ N 0 f hlp11 H locs ls hP hS (lv_sub hl [1, 2, 3, 4, 0] rfl)
  intro H locs ls hP hS hl
  obtain rfl := Option.some.inj hf
  exact kr H locs ls 68 dX10_loads_68 hP hS
set_option maxHeartbeats 4000000 in
set_option maxRecDepth 100000 in
theorem c_X10_loads (hj : jR ad) (l : Launch) (N : Nat) (x1 : Int32) (x2 : Int32) (x3 : Int32) (f : mM) (t : Int64) (fR : mM) (hf : q_X10_loads N x1 x2 x3 f = some fR) : Met l yX10_loads wsX10_loads ({ frames := 0, cells := 0, slots := 0, locals := 0 }) (va_Pc ([.ref (ad 0), .int x1, .int x2, .int x3]) (pre D cy (wR ad cy) (xR) f t)) (va_Qv (fun (u : mM × Int64) => u = (fR, t)) (atW D (wR ad cy)) (aR ad)) 0 0 (aR ad) := by
  refine Met.ofW (cc := cX10_loads) (maxL := 5) (ret := none) (by decide) rfl ?_
  intro p e s m args below meth c s₁ B hml hv
  obtain ⟨rfl, hP, hK, hX0⟩ := hv
  have hl := lv_entry ([.ref (ad 0), .int x1, .int x2, .int x3]) (n := 5) (Nat.le_of_ble_eq_true rfl)
  rw [lg_entry_eq]
  generalize (lg_sl ([.ref (ad 0), .int x1, .int x2, .int x3]) ++ List.replicate (5 - (lg_sl ([.ref (ad 0), .int x1, .int x2, .int x3])).length) Slot.unset).toArray = ls at hl ⊢
  have hlocks := B.notSynchronized
  exact b_X10_loads ⟨B.exec, B.bytes, B.returns, hml, findClass_of_methodNamed B.named, atoms_spec (ws := wsX10_loads) B.pre, hlocks, hK, hX0⟩ hj ⟨Nat.le_refl _, Nat.le_refl _⟩ N x1 x2 x3 f t fR hf (fun H locs ls pc hd hP hS => W.vret B.exec B.bytes B.returns (fun t2 ht hW => ⟨⟨(fR, t), rfl, rfl, by show va_P D vwCl _ t2.heap; rw [ht]; exact hP⟩, hS.F ht⟩) hS.2.2 hd) s.heap [] ls hP va_S.rf hl
def lp_X10_bornNow_4 (N : Nat) (f : mM) : Nat → Int32 → Int32 → Option (Int32)
  | 0, _, _ => none
  | n + 1, x1, x2 => if (f 0 16) ≤ x2 then some x1 else gi x2 50 (sq (x1 + (f 8 (Int32.toNatClampNeg x2))) (fun x1_2 => sq (x2 + 1) (fun x2_3 => lp_X10_bornNow_4 N f n x1_2 x2_3)))
theorem lp_X10_bornNow_4_s (N : Nat) (f : mM) (n : Nat) (x1 : Int32) (x2 : Int32) : lp_X10_bornNow_4 N f (n + 1) x1 x2 = (if (f 0 16) ≤ x2 then some x1 else gi x2 50 (sq (x1 + (f 8 (Int32.toNatClampNeg x2))) (fun x1_2 => sq (x2 + 1) (fun x2_3 => lp_X10_bornNow_4 N f n x1_2 x2_3)))) := rfl
set_option maxHeartbeats 4000000 in
set_option maxRecDepth 100000 in
theorem lp_X10_bornNow_4_w (C0 : cX p s m args meth c cX10_bornNow 3 (some .int) RX10 wsX10_bornNow D cy (xR)) (hj : jR ad) (hR : 0 ≤ R.frames ∧ 0 ≤ R.locals) (N : Nat)  (f : mM) (t : Int64) (r1 : Int32) (kx27 : ∀ (H : Heap) (locs : List Loc) (ls : Array Slot), va_P D vwCl (wR ad cy f t) H → va_S (aR ad) s.heap H locs → lv_has ls 3 [(1, .int r1)] → W p l e R s m args below meth c H locs 0 0 Q (F0 m 27 ls [])) : ∀ (n : Nat) (x1 : Int32) (x2 : Int32), lp_X10_bornNow_4 N f n x1 x2 = some r1 → ∀ (H : Heap) (locs : List Loc) (ls : Array Slot), va_P D vwCl (wR ad cy f t) H → va_S (aR ad) s.heap H locs → lv_has ls 3 [(0, .ref (ad 0)), (1, .int x1), (2, .int x2)] → W p l e R s m args below meth c H locs 0 0 Q (F0 m 4 ls []) := by
  obtain ⟨hx, hb, hr, hml, hown, hts, hlocks, hK, hX0⟩ := id C0
  have lk148 := hts (.fieldLink RX10 148 "PlankNineModel" "planks" "I") (List.mem_of_getElem? (i := 1) rfl)
  have hiX10 : ∀ w ∈ u_ws RX10 TX10 34, w ∈ wsX10_bornNow := fun w h => List.mem_cons_of_mem _ (List.mem_append_right _ h)
  have lk31 := hts (.fieldLink RX10 31 "PlankNineModel" "s" "[I") (List.mem_of_getElem? (i := 2) rfl)
  intro n
  induction n with
  | zero =>
    intro x1 x2 hf
    exact no_none hf
  | succ n ih =>
    intro x1 x2 hf H locs ls hP hS hl
    have hf := (lp_X10_bornNow_4_s N f n x1 x2).symm.trans hf
    refine lv_iload_n hx hb dX10_bornNow_4 rfl (lv_at hl 2 rfl) ?_
    refine lv_aload_n hx hb dX10_bornNow_5 rfl (lv_at hl 0 rfl) ?_
    refine va_get (D := D) (ci := 10) (v := .int (f 0 16)) (C := RX10) (T := TX10) (N := 34) hx hb hts hiX10 hown hK hP 0 rfl rfl 16 (by decide) lk148 (fun _ h9 => h9) rfl dX10_bornNow_6 ?_
    refine lv_icmp_ge (tgt := 27) hx hb dX10_bornNow_9 (by decide) (fun c9 => ?_) (fun c9 => ?_)
    · have hf := itT hf c9
      obtain rfl := Option.some.inj hf
      exact kx27 H locs ls hP hS (lv_sub hl [1] rfl)
    · have hf := itF hf c9
      refine lv_iload_n hx hb dX10_bornNow_12 rfl (lv_at hl 1 rfl) ?_
      refine lv_aload_n hx hb dX10_bornNow_13 rfl (lv_at hl 0 rfl) ?_
      refine va_get (D := D) (ci := 10) (v := .ref (ad 8)) (C := RX10) (T := TX10) (N := 34) hx hb hts hiX10 hown hK hP 0 rfl rfl 23 (by decide) lk31 (fun _ h9 => h9) rfl dX10_bornNow_14 ?_
      refine lv_iload_n hx hb dX10_bornNow_17 rfl (lv_at hl 2 rfl) ?_
      obtain ⟨hin1, hf⟩ := gi_out hf
      refine va_iald hx hb hK hP 8 1 rfl rfl hin1 dX10_bornNow_18 ?_
      refine lv_iadd hx hb dX10_bornNow_19 ?_
      obtain ⟨x1_2, ex1_2, hf⟩ := sq_out hf
      refine lv_nmi ex1_2 ?_
      refine lv_istore_n (lv' := [(1, .int x1_2), (0, .ref (ad 0)), (2, .int x2)]) hx hb dX10_bornNow_20 rfl hl (by decide) rfl (fun ls hl => ?_)
      obtain ⟨x2_3, ex2_3, hf⟩ := sq_out hf
      refine lv_iinc (v := x2_3) (lv' := [(2, .int x2_3), (1, .int x1_2), (0, .ref (ad 0))]) hx hb dX10_bornNow_21 hl (k := 2) rfl (by rw [ex2_3]; rfl) (by decide) rfl (fun ls hl => ?_)
      refine lv_goto (tgt := 4) hx hb dX10_bornNow_24 (by decide) ?_
      exact ih x1_2 x2_3 hf H locs ls hP hS (lv_sub hl [2, 1, 0] rfl)
def q_X10_bornNow (N : Nat) (f : mM) : Option (Int32) := bi (lp_X10_bornNow_4 N f N 0 0) (fun y4 => some y4)
set_option maxHeartbeats 4000000 in
set_option maxRecDepth 100000 in
theorem b_X10_bornNow (C0 : cX p s m args meth c cX10_bornNow 3 (some .int) RX10 wsX10_bornNow D cy (xR)) (hj : jR ad) (hR : 0 ≤ R.frames ∧ 0 ≤ R.locals) (N : Nat)  (f : mM) (t : Int64) (r : Int32) (hf : q_X10_bornNow N f = some r) (kr : ∀ (H : Heap) (locs : List Loc) (ls : Array Slot) (pc : Nat), decode cX10_bornNow pc = .ok (.ireturn, 1) → va_P D vwCl (wR ad cy f t) H → va_S (aR ad) s.heap H locs → W p l e R s m args below meth c H locs 0 0 Q (F0 m pc ls [.int r])) (H : Heap) (locs : List Loc) (ls : Array Slot) (hP : va_P D vwCl (wR ad cy f t) H) (hS : va_S (aR ad) s.heap H locs) (hl : lv_has ls 3 [(0, .ref (ad 0))]) : W p l e R s m args below meth c H locs 0 0 Q (F0 m 0 ls []) := by
  obtain ⟨hx, hb, hr, hml, hown, hts, hlocks, hK, hX0⟩ := id C0
  unfold q_X10_bornNow at hf
  refine lv_iconst (v := 0) hx hb dX10_bornNow_0 (by decide) ?_
  refine lv_istore_n (lv' := [(1, .int 0), (0, .ref (ad 0))]) hx hb dX10_bornNow_1 rfl hl (by decide) rfl (fun ls hl => ?_)
  refine lv_iconst (v := 0) hx hb dX10_bornNow_2 (by decide) ?_
  refine lv_istore_n (lv' := [(2, .int 0), (1, .int 0), (0, .ref (ad 0))]) hx hb dX10_bornNow_3 rfl hl (by decide) rfl (fun ls hl => ?_)
  obtain ⟨y4, hlp5, hf⟩ := bi_out hf
  refine lp_X10_bornNow_4_w C0 hj hR N f t y4 ?_ N 0 0 hlp5 H locs ls hP hS (lv_sub hl [2, 1, 0] rfl)
  intro H locs ls hP hS hl
  refine lv_iload_n hx hb dX10_bornNow_27 rfl (lv_at hl 0 rfl) ?_
  obtain rfl := Option.some.inj hf
  exact kr H locs ls 28 dX10_bornNow_28 hP hS
set_option maxHeartbeats 4000000 in
set_option maxRecDepth 100000 in
theorem c_X10_bornNow (hj : jR ad) (l : Launch) (N : Nat)  (f : mM) (t : Int64) (r : Int32) (hf : q_X10_bornNow N f = some r) : Met l yX10_bornNow wsX10_bornNow ({ frames := 0, cells := 0, slots := 0, locals := 0 }) (va_Pc ([.ref (ad 0)]) (pre D cy (wR ad cy) (xR) f t)) (va_Qi (fun (r2 : Int32) (u : mM × Int64) => r2 = r ∧ u = (f, t)) (atW D (wR ad cy)) (aR ad)) 0 0 (aR ad) := by
  refine Met.ofW (cc := cX10_bornNow) (maxL := 3) (ret := (some .int)) (by decide) rfl ?_
  intro p e s m args below meth c s₁ B hml hv
  obtain ⟨rfl, hP, hK, hX0⟩ := hv
  have hl := lv_entry ([.ref (ad 0)]) (n := 3) (Nat.le_of_ble_eq_true rfl)
  rw [lg_entry_eq]
  generalize (lg_sl ([.ref (ad 0)]) ++ List.replicate (3 - (lg_sl ([.ref (ad 0)])).length) Slot.unset).toArray = ls at hl ⊢
  have hlocks := B.notSynchronized
  exact b_X10_bornNow ⟨B.exec, B.bytes, B.returns, hml, findClass_of_methodNamed B.named, atoms_spec (ws := wsX10_bornNow) B.pre, hlocks, hK, hX0⟩ hj ⟨Nat.le_refl _, Nat.le_refl _⟩ N  f t r hf (fun H locs ls pc hd hP hS => W.iret B.exec B.bytes B.returns (fun t2 ht hW => ⟨⟨r, (f, t), rfl, ⟨rfl, rfl⟩, by show va_P D vwCl _ t2.heap; rw [ht]; exact hP⟩, hS.F ht⟩) hS.2.2 hd) s.heap [] ls hP va_S.rf hl
def lp_X10_loaded_4 (N : Nat) (f : mM) : Nat → Int32 → Int32 → Option (Int32)
  | 0, _, _ => none
  | n + 1, x1, x2 => if (f 0 16) ≤ x2 then some x1 else gi x2 9 (sq (x1 + (f 17 (Int32.toNatClampNeg x2))) (fun x1_2 => sq (x2 + 1) (fun x2_3 => lp_X10_loaded_4 N f n x1_2 x2_3)))
theorem lp_X10_loaded_4_s (N : Nat) (f : mM) (n : Nat) (x1 : Int32) (x2 : Int32) : lp_X10_loaded_4 N f (n + 1) x1 x2 = (if (f 0 16) ≤ x2 then some x1 else gi x2 9 (sq (x1 + (f 17 (Int32.toNatClampNeg x2))) (fun x1_2 => sq (x2 + 1) (fun x2_3 => lp_X10_loaded_4 N f n x1_2 x2_3)))) := rfl
set_option maxHeartbeats 4000000 in
set_option maxRecDepth 100000 in
theorem lp_X10_loaded_4_w (C0 : cX p s m args meth c cX10_loaded 3 (some .int) RX10 wsX10_loaded D cy (xR)) (hj : jR ad) (hR : 0 ≤ R.frames ∧ 0 ≤ R.locals) (N : Nat)  (f : mM) (t : Int64) (r1 : Int32) (kx27 : ∀ (H : Heap) (locs : List Loc) (ls : Array Slot), va_P D vwCl (wR ad cy f t) H → va_S (aR ad) s.heap H locs → lv_has ls 3 [(1, .int r1)] → W p l e R s m args below meth c H locs 0 0 Q (F0 m 27 ls [])) : ∀ (n : Nat) (x1 : Int32) (x2 : Int32), lp_X10_loaded_4 N f n x1 x2 = some r1 → ∀ (H : Heap) (locs : List Loc) (ls : Array Slot), va_P D vwCl (wR ad cy f t) H → va_S (aR ad) s.heap H locs → lv_has ls 3 [(0, .ref (ad 0)), (1, .int x1), (2, .int x2)] → W p l e R s m args below meth c H locs 0 0 Q (F0 m 4 ls []) := by
  obtain ⟨hx, hb, hr, hml, hown, hts, hlocks, hK, hX0⟩ := id C0
  have lk148 := hts (.fieldLink RX10 148 "PlankNineModel" "planks" "I") (List.mem_of_getElem? (i := 1) rfl)
  have hiX10 : ∀ w ∈ u_ws RX10 TX10 34, w ∈ wsX10_loaded := fun w h => List.mem_cons_of_mem _ (List.mem_append_right _ h)
  have lk59 := hts (.fieldLink RX10 59 "PlankNineModel" "load" "[I") (List.mem_of_getElem? (i := 2) rfl)
  intro n
  induction n with
  | zero =>
    intro x1 x2 hf
    exact no_none hf
  | succ n ih =>
    intro x1 x2 hf H locs ls hP hS hl
    have hf := (lp_X10_loaded_4_s N f n x1 x2).symm.trans hf
    refine lv_iload_n hx hb dX10_loaded_4 rfl (lv_at hl 2 rfl) ?_
    refine lv_aload_n hx hb dX10_loaded_5 rfl (lv_at hl 0 rfl) ?_
    refine va_get (D := D) (ci := 10) (v := .int (f 0 16)) (C := RX10) (T := TX10) (N := 34) hx hb hts hiX10 hown hK hP 0 rfl rfl 16 (by decide) lk148 (fun _ h9 => h9) rfl dX10_loaded_6 ?_
    refine lv_icmp_ge (tgt := 27) hx hb dX10_loaded_9 (by decide) (fun c9 => ?_) (fun c9 => ?_)
    · have hf := itT hf c9
      obtain rfl := Option.some.inj hf
      exact kx27 H locs ls hP hS (lv_sub hl [1] rfl)
    · have hf := itF hf c9
      refine lv_iload_n hx hb dX10_loaded_12 rfl (lv_at hl 1 rfl) ?_
      refine lv_aload_n hx hb dX10_loaded_13 rfl (lv_at hl 0 rfl) ?_
      refine va_get (D := D) (ci := 10) (v := .ref (ad 17)) (C := RX10) (T := TX10) (N := 34) hx hb hts hiX10 hown hK hP 0 rfl rfl 32 (by decide) lk59 (fun _ h9 => h9) rfl dX10_loaded_14 ?_
      refine lv_iload_n hx hb dX10_loaded_17 rfl (lv_at hl 2 rfl) ?_
      obtain ⟨hin1, hf⟩ := gi_out hf
      refine va_iald hx hb hK hP 17 1 rfl rfl hin1 dX10_loaded_18 ?_
      refine lv_iadd hx hb dX10_loaded_19 ?_
      obtain ⟨x1_2, ex1_2, hf⟩ := sq_out hf
      refine lv_nmi ex1_2 ?_
      refine lv_istore_n (lv' := [(1, .int x1_2), (0, .ref (ad 0)), (2, .int x2)]) hx hb dX10_loaded_20 rfl hl (by decide) rfl (fun ls hl => ?_)
      obtain ⟨x2_3, ex2_3, hf⟩ := sq_out hf
      refine lv_iinc (v := x2_3) (lv' := [(2, .int x2_3), (1, .int x1_2), (0, .ref (ad 0))]) hx hb dX10_loaded_21 hl (k := 2) rfl (by rw [ex2_3]; rfl) (by decide) rfl (fun ls hl => ?_)
      refine lv_goto (tgt := 4) hx hb dX10_loaded_24 (by decide) ?_
      exact ih x1_2 x2_3 hf H locs ls hP hS (lv_sub hl [2, 1, 0] rfl)
def q_X10_loaded (N : Nat) (f : mM) : Option (Int32) := bi (lp_X10_loaded_4 N f N 0 0) (fun y4 => some y4)
set_option maxHeartbeats 4000000 in
set_option maxRecDepth 100000 in
theorem b_X10_loaded (C0 : cX p s m args meth c cX10_loaded 3 (some .int) RX10 wsX10_loaded D cy (xR)) (hj : jR ad) (hR : 0 ≤ R.frames ∧ 0 ≤ R.locals) (N : Nat)  (f : mM) (t : Int64) (r : Int32) (hf : q_X10_loaded N f = some r) (kr : ∀ (H : Heap) (locs : List Loc) (ls : Array Slot) (pc : Nat), decode cX10_loaded pc = .ok (.ireturn, 1) → va_P D vwCl (wR ad cy f t) H → va_S (aR ad) s.heap H locs → W p l e R s m args below meth c H locs 0 0 Q (F0 m pc ls [.int r])) (H : Heap) (locs : List Loc) (ls : Array Slot) (hP : va_P D vwCl (wR ad cy f t) H) (hS : va_S (aR ad) s.heap H locs) (hl : lv_has ls 3 [(0, .ref (ad 0))]) : W p l e R s m args below meth c H locs 0 0 Q (F0 m 0 ls []) := by
  obtain ⟨hx, hb, hr, hml, hown, hts, hlocks, hK, hX0⟩ := id C0
  unfold q_X10_loaded at hf
  refine lv_iconst (v := 0) hx hb dX10_loaded_0 (by decide) ?_
  refine lv_istore_n (lv' := [(1, .int 0), (0, .ref (ad 0))]) hx hb dX10_loaded_1 rfl hl (by decide) rfl (fun ls hl => ?_)
  refine lv_iconst (v := 0) hx hb dX10_loaded_2 (by decide) ?_
  refine lv_istore_n (lv' := [(2, .int 0), (1, .int 0), (0, .ref (ad 0))]) hx hb dX10_loaded_3 rfl hl (by decide) rfl (fun ls hl => ?_)
  obtain ⟨y4, hlp5, hf⟩ := bi_out hf
  refine lp_X10_loaded_4_w C0 hj hR N f t y4 ?_ N 0 0 hlp5 H locs ls hP hS (lv_sub hl [2, 1, 0] rfl)
  intro H locs ls hP hS hl
  refine lv_iload_n hx hb dX10_loaded_27 rfl (lv_at hl 0 rfl) ?_
  obtain rfl := Option.some.inj hf
  exact kr H locs ls 28 dX10_loaded_28 hP hS
set_option maxHeartbeats 4000000 in
set_option maxRecDepth 100000 in
theorem c_X10_loaded (hj : jR ad) (l : Launch) (N : Nat)  (f : mM) (t : Int64) (r : Int32) (hf : q_X10_loaded N f = some r) : Met l yX10_loaded wsX10_loaded ({ frames := 0, cells := 0, slots := 0, locals := 0 }) (va_Pc ([.ref (ad 0)]) (pre D cy (wR ad cy) (xR) f t)) (va_Qi (fun (r2 : Int32) (u : mM × Int64) => r2 = r ∧ u = (f, t)) (atW D (wR ad cy)) (aR ad)) 0 0 (aR ad) := by
  refine Met.ofW (cc := cX10_loaded) (maxL := 3) (ret := (some .int)) (by decide) rfl ?_
  intro p e s m args below meth c s₁ B hml hv
  obtain ⟨rfl, hP, hK, hX0⟩ := hv
  have hl := lv_entry ([.ref (ad 0)]) (n := 3) (Nat.le_of_ble_eq_true rfl)
  rw [lg_entry_eq]
  generalize (lg_sl ([.ref (ad 0)]) ++ List.replicate (3 - (lg_sl ([.ref (ad 0)])).length) Slot.unset).toArray = ls at hl ⊢
  have hlocks := B.notSynchronized
  exact b_X10_loaded ⟨B.exec, B.bytes, B.returns, hml, findClass_of_methodNamed B.named, atoms_spec (ws := wsX10_loaded) B.pre, hlocks, hK, hX0⟩ hj ⟨Nat.le_refl _, Nat.le_refl _⟩ N  f t r hf (fun H locs ls pc hd hP hS => W.iret B.exec B.bytes B.returns (fun t2 ht hW => ⟨⟨r, (f, t), rfl, ⟨rfl, rfl⟩, by show va_P D vwCl _ t2.heap; rw [ht]; exact hP⟩, hS.F ht⟩) hS.2.2 hd) s.heap [] ls hP va_S.rf hl
def lp_X10_leastTaken_2 (N : Nat)  : Nat → Int32 → mM → Option (mM)
  | 0, _, _ => none
  | n + 1, x1, f => if 9 ≤ x1 then some f else gi x1 9 (sq (st2 f 17 (Int32.toNatClampNeg x1) 0) (fun f2 => sq (x1 + 1) (fun x1_3 => lp_X10_leastTaken_2 N n x1_3 f2)))
theorem lp_X10_leastTaken_2_s (N : Nat)  (n : Nat) (x1 : Int32) (f : mM) : lp_X10_leastTaken_2 N (n + 1) x1 f = (if 9 ≤ x1 then some f else gi x1 9 (sq (st2 f 17 (Int32.toNatClampNeg x1) 0) (fun f2 => sq (x1 + 1) (fun x1_3 => lp_X10_leastTaken_2 N n x1_3 f2)))) := rfl
set_option maxHeartbeats 4000000 in
set_option maxRecDepth 100000 in
theorem lp_X10_leastTaken_2_w (C0 : cX p s m args meth c cX10_leastTaken 4 (some .int) RX10 wsX10_leastTaken D cy (xR)) (hj : jR ad) (hR : 3 ≤ R.frames ∧ 77 ≤ R.locals) (N : Nat)  (t : Int64) (fR : mM) (kx21 : ∀ (H : Heap) (locs : List Loc) (ls : Array Slot), va_P D vwCl (wR ad cy fR t) H → va_S (aR ad) s.heap H locs → lv_has ls 4 [(0, .ref (ad 0))] → W p l e R s m args below meth c H locs 0 0 Q (F0 m 21 ls [])) : ∀ (n : Nat) (x1 : Int32) (f : mM), lp_X10_leastTaken_2 N n x1 f = some fR → ∀ (H : Heap) (locs : List Loc) (ls : Array Slot), va_P D vwCl (wR ad cy f t) H → va_S (aR ad) s.heap H locs → lv_has ls 4 [(0, .ref (ad 0)), (1, .int x1)] → W p l e R s m args below meth c H locs 0 0 Q (F0 m 2 ls []) := by
  obtain ⟨hx, hb, hr, hml, hown, hts, hlocks, hK, hX0⟩ := id C0
  have lk59 := hts (.fieldLink RX10 59 "PlankNineModel" "load" "[I") (List.mem_of_getElem? (i := 1) rfl)
  have hiX10 : ∀ w ∈ u_ws RX10 TX10 34, w ∈ wsX10_leastTaken := fun w h => List.mem_cons_of_mem _ (List.mem_append_right _ h)
  intro n
  induction n with
  | zero =>
    intro x1 f hf
    exact no_none hf
  | succ n ih =>
    intro x1 f hf H locs ls hP hS hl
    have hf := (lp_X10_leastTaken_2_s N n x1 f).symm.trans hf
    refine lv_iload_n hx hb dX10_leastTaken_2 rfl (lv_at hl 1 rfl) ?_
    refine lv_bipush (v := 9) hx hb dX10_leastTaken_3 (by decide) ?_
    refine lv_icmp_ge (tgt := 21) hx hb dX10_leastTaken_5 (by decide) (fun c5 => ?_) (fun c5 => ?_)
    · have hf := itT hf c5
      obtain rfl := Option.some.inj hf
      exact kx21 H locs ls hP hS (lv_sub hl [0] rfl)
    · have hf := itF hf c5
      refine lv_aload_n hx hb dX10_leastTaken_8 rfl (lv_at hl 0 rfl) ?_
      refine va_get (D := D) (ci := 10) (v := .ref (ad 17)) (C := RX10) (T := TX10) (N := 34) hx hb hts hiX10 hown hK hP 0 rfl rfl 32 (by decide) lk59 (fun _ h9 => h9) rfl dX10_leastTaken_9 ?_
      refine lv_iload_n hx hb dX10_leastTaken_12 rfl (lv_at hl 1 rfl) ?_
      refine lv_iconst (v := 0) hx hb dX10_leastTaken_13 (by decide) ?_
      obtain ⟨hin1, hf⟩ := gi_out hf
      obtain ⟨f2, ef2, hf⟩ := sq_out hf
      refine va_iast hx hb hK hP (dR hj f t) hS 17 1 rfl rfl hin1 dX10_leastTaken_14 (fun H locs hP _ hS => ?_)
      have hP := sR_17 ef2 hP
      obtain ⟨x1_3, ex1_3, hf⟩ := sq_out hf
      refine lv_iinc (v := x1_3) (lv' := [(1, .int x1_3), (0, .ref (ad 0))]) hx hb dX10_leastTaken_15 hl (k := 1) rfl (by rw [ex1_3]; rfl) (by decide) rfl (fun ls hl => ?_)
      refine lv_goto (tgt := 2) hx hb dX10_leastTaken_18 (by decide) ?_
      exact ih x1_3 f2 hf H locs ls hP hS (lv_sub hl [1, 0] rfl)
def lp_X10_leastTaken_23 (N : Nat)  : Nat → Int32 → mM → Option (mM)
  | 0, _, _ => none
  | n + 1, x1, f => if (f 0 18) ≤ x1 then some f else bi (q_X10_listsWays N x1 f) (fun f6 => sq (x1 + 1) (fun x1_8 => lp_X10_leastTaken_23 N n x1_8 f6))
theorem lp_X10_leastTaken_23_s (N : Nat)  (n : Nat) (x1 : Int32) (f : mM) : lp_X10_leastTaken_23 N (n + 1) x1 f = (if (f 0 18) ≤ x1 then some f else bi (q_X10_listsWays N x1 f) (fun f6 => sq (x1 + 1) (fun x1_8 => lp_X10_leastTaken_23 N n x1_8 f6))) := rfl
set_option maxHeartbeats 4000000 in
set_option maxRecDepth 100000 in
theorem lp_X10_leastTaken_23_w (C0 : cX p s m args meth c cX10_leastTaken 4 (some .int) RX10 wsX10_leastTaken D cy (xR)) (hj : jR ad) (hR : 3 ≤ R.frames ∧ 77 ≤ R.locals) (N : Nat)  (t : Int64) (fR : mM) (kx42 : ∀ (H : Heap) (locs : List Loc) (ls : Array Slot), va_P D vwCl (wR ad cy fR t) H → va_S (aR ad) s.heap H locs → lv_has ls 4 [(0, .ref (ad 0))] → W p l e R s m args below meth c H locs 0 0 Q (F0 m 42 ls [])) : ∀ (n : Nat) (x1 : Int32) (f : mM), lp_X10_leastTaken_23 N n x1 f = some fR → ∀ (H : Heap) (locs : List Loc) (ls : Array Slot), va_P D vwCl (wR ad cy f t) H → va_S (aR ad) s.heap H locs → lv_has ls 4 [(0, .ref (ad 0)), (1, .int x1)] → W p l e R s m args below meth c H locs 0 0 Q (F0 m 23 ls []) := by
  obtain ⟨hx, hb, hr, hml, hown, hts, hlocks, hK, hX0⟩ := id C0
  have lk154 := hts (.fieldLink RX10 154 "PlankNineModel" "errandMany" "I") (List.mem_of_getElem? (i := 2) rfl)
  have hiX10 : ∀ w ∈ u_ws RX10 TX10 34, w ∈ wsX10_leastTaken := fun w h => List.mem_cons_of_mem _ (List.mem_append_right _ h)
  intro n
  induction n with
  | zero =>
    intro x1 f hf
    exact no_none hf
  | succ n ih =>
    intro x1 f hf H locs ls hP hS hl
    have hf := (lp_X10_leastTaken_23_s N n x1 f).symm.trans hf
    refine lv_iload_n hx hb dX10_leastTaken_23 rfl (lv_at hl 1 rfl) ?_
    refine lv_aload_n hx hb dX10_leastTaken_24 rfl (lv_at hl 0 rfl) ?_
    refine va_get (D := D) (ci := 10) (v := .int (f 0 18)) (C := RX10) (T := TX10) (N := 34) hx hb hts hiX10 hown hK hP 0 rfl rfl 18 (by decide) lk154 (fun _ h9 => h9) rfl dX10_leastTaken_25 ?_
    refine lv_icmp_ge (tgt := 42) hx hb dX10_leastTaken_28 (by decide) (fun c28 => ?_) (fun c28 => ?_)
    · have hf := itT hf c28
      obtain rfl := Option.some.inj hf
      exact kx42 H locs ls hP hS (lv_sub hl [0] rfl)
    · have hf := itF hf c28
      refine lv_aload_n hx hb dX10_leastTaken_31 rfl (lv_at hl 0 rfl) ?_
      refine lv_iload_n hx hb dX10_leastTaken_32 rfl (lv_at hl 1 rfl) ?_
      obtain ⟨f6, hq7, hf⟩ := bi_out hf
      refine cw_vv (As := [.int x1]) (rest := []) ⟨hx, hb, hml, hown, hts⟩ xR_S hK hX0 hS hP (c_X10_listsWays hj l N x1 f t f6 hq7) (cwV 1 hts gX10_leastTaken_X10_listsWays rfl rfl rfl (by decide +kernel) ⟨Nat.le_trans (Nat.le_of_ble_eq_true rfl) hR.1, Nat.le_trans (Nat.le_of_ble_eq_true rfl) hR.2⟩) (va_recv hK hP (ci := 10) (q0 := 0) rfl rfl) rfl hl.1 rfl (Nat.le_of_ble_eq_true rfl) ⟨Nat.zero_le _, Nat.zero_le _⟩ dX10_leastTaken_33 (fun H locs hP hS => ?_)
      obtain ⟨x1_8, ex1_8, hf⟩ := sq_out hf
      refine lv_iinc (v := x1_8) (lv' := [(1, .int x1_8), (0, .ref (ad 0))]) hx hb dX10_leastTaken_36 hl (k := 1) rfl (by rw [ex1_8]; rfl) (by decide) rfl (fun ls hl => ?_)
      refine lv_goto (tgt := 23) hx hb dX10_leastTaken_39 (by decide) ?_
      exact ih x1_8 f6 hf H locs ls hP hS (lv_sub hl [1, 0] rfl)
def lp_X10_leastTaken_104 (N : Nat) (x2 : Int32) (x3 : Int32) : Nat → mM → Option (mM)
  | 0, _ => none
  | n + 1, f => gi x3 6 (gi x3 3 (if (f 16 (Int32.toNatClampNeg x3)) ≤ (f 13 (Int32.toNatClampNeg x3)) then some f else gi x3 6 (bi (q_X10_isBorne N x3 (f 13 (Int32.toNatClampNeg x3)) f) (fun y26 => if y26 = 0 then gi x3 6 (gi x3 6 (sq (st2 f 13 (Int32.toNatClampNeg x3) ((f 13 (Int32.toNatClampNeg x3)) + 1)) (fun f30 => lp_X10_leastTaken_104 N x2 x3 n f30))) else some f))))
theorem lp_X10_leastTaken_104_s (N : Nat) (x2 : Int32) (x3 : Int32) (n : Nat) (f : mM) : lp_X10_leastTaken_104 N x2 x3 (n + 1) f = (gi x3 6 (gi x3 3 (if (f 16 (Int32.toNatClampNeg x3)) ≤ (f 13 (Int32.toNatClampNeg x3)) then some f else gi x3 6 (bi (q_X10_isBorne N x3 (f 13 (Int32.toNatClampNeg x3)) f) (fun y26 => if y26 = 0 then gi x3 6 (gi x3 6 (sq (st2 f 13 (Int32.toNatClampNeg x3) ((f 13 (Int32.toNatClampNeg x3)) + 1)) (fun f30 => lp_X10_leastTaken_104 N x2 x3 n f30))) else some f))))) := rfl
set_option maxHeartbeats 4000000 in
set_option maxRecDepth 100000 in
theorem lp_X10_leastTaken_104_w (C0 : cX p s m args meth c cX10_leastTaken 4 (some .int) RX10 wsX10_leastTaken D cy (xR)) (hj : jR ad) (hR : 3 ≤ R.frames ∧ 77 ≤ R.locals) (N : Nat) (x2 : Int32) (x3 : Int32) (t : Int64) (fR : mM) (kx137 : ∀ (H : Heap) (locs : List Loc) (ls : Array Slot), va_P D vwCl (wR ad cy fR t) H → va_S (aR ad) s.heap H locs → lv_has ls 4 [(0, .ref (ad 0)), (1, .ref (ad 13)), (2, .int x2), (3, .int x3)] → W p l e R s m args below meth c H locs 0 0 Q (F0 m 137 ls [])) : ∀ (n : Nat) (f : mM), lp_X10_leastTaken_104 N x2 x3 n f = some fR → ∀ (H : Heap) (locs : List Loc) (ls : Array Slot), va_P D vwCl (wR ad cy f t) H → va_S (aR ad) s.heap H locs → lv_has ls 4 [(0, .ref (ad 0)), (1, .ref (ad 13)), (2, .int x2), (3, .int x3)] → W p l e R s m args below meth c H locs 0 0 Q (F0 m 104 ls []) := by
  obtain ⟨hx, hb, hr, hml, hown, hts, hlocks, hK, hX0⟩ := id C0
  have lk56 := hts (.fieldLink RX10 56 "PlankNineModel" "many" "[I") (List.mem_of_getElem? (i := 4) rfl)
  have hiX10 : ∀ w ∈ u_ws RX10 TX10 34, w ∈ wsX10_leastTaken := fun w h => List.mem_cons_of_mem _ (List.mem_append_right _ h)
  intro n
  induction n with
  | zero =>
    intro f hf
    exact no_none hf
  | succ n ih =>
    intro f hf H locs ls hP hS hl
    have hf := (lp_X10_leastTaken_104_s N x2 x3 n f).symm.trans hf
    refine lv_aload_n hx hb dX10_leastTaken_104 rfl (lv_at hl 1 rfl) ?_
    refine lv_iload_n hx hb dX10_leastTaken_105 rfl (lv_at hl 3 rfl) ?_
    obtain ⟨hin23, hf⟩ := gi_out hf
    refine va_iald hx hb hK hP 13 1 rfl rfl hin23 dX10_leastTaken_106 ?_
    refine lv_aload_n hx hb dX10_leastTaken_107 rfl (lv_at hl 0 rfl) ?_
    refine va_get (D := D) (ci := 10) (v := .ref (ad 16)) (C := RX10) (T := TX10) (N := 34) hx hb hts hiX10 hown hK hP 0 rfl rfl 31 (by decide) lk56 (fun _ h9 => h9) rfl dX10_leastTaken_108 ?_
    refine lv_iload_n hx hb dX10_leastTaken_111 rfl (lv_at hl 3 rfl) ?_
    obtain ⟨hin24, hf⟩ := gi_out hf
    refine va_iald hx hb hK hP 16 1 rfl rfl hin24 dX10_leastTaken_112 ?_
    refine lv_icmp_ge (tgt := 137) hx hb dX10_leastTaken_113 (by decide) (fun c113 => ?_) (fun c113 => ?_)
    · have hf := itT hf c113
      obtain rfl := Option.some.inj hf
      exact kx137 H locs ls hP hS (lv_sub hl [0, 1, 2, 3] rfl)
    · have hf := itF hf c113
      refine lv_aload_n hx hb dX10_leastTaken_116 rfl (lv_at hl 0 rfl) ?_
      refine lv_iload_n hx hb dX10_leastTaken_117 rfl (lv_at hl 3 rfl) ?_
      refine lv_aload_n hx hb dX10_leastTaken_118 rfl (lv_at hl 1 rfl) ?_
      refine lv_iload_n hx hb dX10_leastTaken_119 rfl (lv_at hl 3 rfl) ?_
      obtain ⟨hin25, hf⟩ := gi_out hf
      refine va_iald hx hb hK hP 13 1 rfl rfl hin25 dX10_leastTaken_120 ?_
      obtain ⟨y26, hq27, hf⟩ := bi_out hf
      refine cw_vi (As := [.int x3, .int (f 13 (Int32.toNatClampNeg x3))]) (rest := []) ⟨hx, hb, hml, hown, hts⟩ xR_S hK hX0 hS hP (c_X10_isBorne hj l N x3 (f 13 (Int32.toNatClampNeg x3)) f t y26 hq27) (cwV 2 hts gX10_leastTaken_X10_isBorne rfl rfl rfl (by decide +kernel) ⟨Nat.le_trans (Nat.le_of_ble_eq_true rfl) hR.1, Nat.le_trans (Nat.le_of_ble_eq_true rfl) hR.2⟩) (va_recv hK hP (ci := 10) (q0 := 0) rfl rfl) rfl hl.1 rfl (Nat.le_of_ble_eq_true rfl) ⟨Nat.zero_le _, Nat.zero_le _⟩ dX10_leastTaken_121 (fun H locs hP hS => ?_)
      refine lv_if_ne (tgt := 137) hx hb dX10_leastTaken_124 (by decide) (fun c124 => ?_) (fun c124 => ?_)
      · have hf := itF hf c124
        obtain rfl := Option.some.inj hf
        exact kx137 H locs ls hP hS (lv_sub hl [0, 1, 2, 3] rfl)
      · have hf := itT hf c124
        refine lv_aload_n hx hb dX10_leastTaken_127 rfl (lv_at hl 1 rfl) ?_
        refine lv_iload_n hx hb dX10_leastTaken_128 rfl (lv_at hl 3 rfl) ?_
        refine lv_dup2_11 hx hb dX10_leastTaken_129 rfl rfl ?_
        obtain ⟨hin28, hf⟩ := gi_out hf
        refine va_iald hx hb hK hP 13 1 rfl rfl hin28 dX10_leastTaken_130 ?_
        refine lv_iconst (v := 1) hx hb dX10_leastTaken_131 (by decide) ?_
        refine lv_iadd hx hb dX10_leastTaken_132 ?_
        obtain ⟨hin29, hf⟩ := gi_out hf
        obtain ⟨f30, ef30, hf⟩ := sq_out hf
        refine va_iast hx hb hK hP (dR hj f t) hS 13 1 rfl rfl hin29 dX10_leastTaken_133 (fun H locs hP _ hS => ?_)
        have hP := sR_13 ef30 hP
        refine lv_goto (tgt := 104) hx hb dX10_leastTaken_134 (by decide) ?_
        exact ih f30 hf H locs ls hP hS (lv_sub hl [0, 1, 2, 3] rfl)
def lp_X10_leastTaken_78 (N : Nat)  : Nat → Int32 → Int32 → mM → Option (Int32 × mM)
  | 0, _, _, _ => none
  | n + 1, x2, x3, f => if x3 < 0 then some (x2, f) else gi x3 6 (sq (fun (f18 : mM) => gi x3 6 (gi x3 6 (sq (st2 f18 13 (Int32.toNatClampNeg x3) ((f18 13 (Int32.toNatClampNeg x3)) + 1)) (fun f22 => bi (lp_X10_leastTaken_104 N x2 x3 N f22) (fun f31 => gi x3 6 (gi x3 3 (if (f31 13 (Int32.toNatClampNeg x3)) = (f31 16 (Int32.toNatClampNeg x3)) then gi x3 6 (sq (st2 f31 13 (Int32.toNatClampNeg x3) (-1)) (fun f47 => sq (x3 + (-1)) (fun x3_48 => lp_X10_leastTaken_78 N n x2 x3_48 f47))) else gi x3 6 (bi (q_X10_loads N x3 (f31 13 (Int32.toNatClampNeg x3)) 1 f31) (fun f36 => if x3 = ((f36 0 18) - 1) then sq (fun (_ : Unit) => bi (q_X10_loaded N f36) (fun y42 => lp_X10_leastTaken_78 N n y42 x3 f36)) (fun k41 => if x2 = (-9) then k41 () else bi (q_X10_loaded N f36) (fun y44 => if x2 ≤ y44 then lp_X10_leastTaken_78 N n x2 x3 f36 else k41 ())) else sq (x3 + 1) (fun x3_38 => gi x3_38 6 (sq (st2 f36 13 (Int32.toNatClampNeg x3_38) (-1)) (fun f40 => lp_X10_leastTaken_78 N n x2 x3_38 f40)))))))))))) (fun k19 => if (f 13 (Int32.toNatClampNeg x3)) < 0 then k19 f else gi x3 6 (bi (q_X10_loads N x3 (f 13 (Int32.toNatClampNeg x3)) (-1) f) (fun f50 => k19 f50))))
theorem lp_X10_leastTaken_78_s (N : Nat)  (n : Nat) (x2 : Int32) (x3 : Int32) (f : mM) : lp_X10_leastTaken_78 N (n + 1) x2 x3 f = (if x3 < 0 then some (x2, f) else gi x3 6 (sq (fun (f18 : mM) => gi x3 6 (gi x3 6 (sq (st2 f18 13 (Int32.toNatClampNeg x3) ((f18 13 (Int32.toNatClampNeg x3)) + 1)) (fun f22 => bi (lp_X10_leastTaken_104 N x2 x3 N f22) (fun f31 => gi x3 6 (gi x3 3 (if (f31 13 (Int32.toNatClampNeg x3)) = (f31 16 (Int32.toNatClampNeg x3)) then gi x3 6 (sq (st2 f31 13 (Int32.toNatClampNeg x3) (-1)) (fun f47 => sq (x3 + (-1)) (fun x3_48 => lp_X10_leastTaken_78 N n x2 x3_48 f47))) else gi x3 6 (bi (q_X10_loads N x3 (f31 13 (Int32.toNatClampNeg x3)) 1 f31) (fun f36 => if x3 = ((f36 0 18) - 1) then sq (fun (_ : Unit) => bi (q_X10_loaded N f36) (fun y42 => lp_X10_leastTaken_78 N n y42 x3 f36)) (fun k41 => if x2 = (-9) then k41 () else bi (q_X10_loaded N f36) (fun y44 => if x2 ≤ y44 then lp_X10_leastTaken_78 N n x2 x3 f36 else k41 ())) else sq (x3 + 1) (fun x3_38 => gi x3_38 6 (sq (st2 f36 13 (Int32.toNatClampNeg x3_38) (-1)) (fun f40 => lp_X10_leastTaken_78 N n x2 x3_38 f40)))))))))))) (fun k19 => if (f 13 (Int32.toNatClampNeg x3)) < 0 then k19 f else gi x3 6 (bi (q_X10_loads N x3 (f 13 (Int32.toNatClampNeg x3)) (-1) f) (fun f50 => k19 f50))))) := rfl
set_option maxHeartbeats 4000000 in
set_option maxRecDepth 100000 in
theorem lp_X10_leastTaken_78_w (C0 : cX p s m args meth c cX10_leastTaken 4 (some .int) RX10 wsX10_leastTaken D cy (xR)) (hj : jR ad) (hR : 3 ≤ R.frames ∧ 77 ≤ R.locals) (N : Nat)  (t : Int64) (r2 : Int32) (fR : mM) (kx214 : ∀ (H : Heap) (locs : List Loc) (ls : Array Slot), va_P D vwCl (wR ad cy fR t) H → va_S (aR ad) s.heap H locs → lv_has ls 4 [(2, .int r2)] → W p l e R s m args below meth c H locs 0 0 Q (F0 m 214 ls [])) : ∀ (n : Nat) (x2 : Int32) (x3 : Int32) (f : mM), lp_X10_leastTaken_78 N n x2 x3 f = some (r2, fR) → ∀ (H : Heap) (locs : List Loc) (ls : Array Slot), va_P D vwCl (wR ad cy f t) H → va_S (aR ad) s.heap H locs → lv_has ls 4 [(0, .ref (ad 0)), (1, .ref (ad 13)), (2, .int x2), (3, .int x3)] → W p l e R s m args below meth c H locs 0 0 Q (F0 m 78 ls []) := by
  obtain ⟨hx, hb, hr, hml, hown, hts, hlocks, hK, hX0⟩ := id C0
  have lk56 := hts (.fieldLink RX10 56 "PlankNineModel" "many" "[I") (List.mem_of_getElem? (i := 4) rfl)
  have hiX10 : ∀ w ∈ u_ws RX10 TX10 34, w ∈ wsX10_leastTaken := fun w h => List.mem_cons_of_mem _ (List.mem_append_right _ h)
  have lk154 := hts (.fieldLink RX10 154 "PlankNineModel" "errandMany" "I") (List.mem_of_getElem? (i := 2) rfl)
  intro n
  induction n with
  | zero =>
    intro x2 x3 f hf
    exact no_none hf
  | succ n ih =>
    intro x2 x3 f hf H locs ls hP hS hl
    have hf := (lp_X10_leastTaken_78_s N n x2 x3 f).symm.trans hf
    refine lv_iload_n hx hb dX10_leastTaken_78 rfl (lv_at hl 3 rfl) ?_
    refine lv_if_lt (tgt := 214) hx hb dX10_leastTaken_79 (by decide) (fun c79 => ?_) (fun c79 => ?_)
    · have hf := itT hf c79
      have hg_0 := Option.some.inj hf
      obtain ⟨rfl, rfl⟩ := Prod.mk.inj hg_0
      exact kx214 H locs ls hP hS (lv_sub hl [2] rfl)
    · have hf := itF hf c79
      refine lv_aload_n hx hb dX10_leastTaken_82 rfl (lv_at hl 1 rfl) ?_
      refine lv_iload_n hx hb dX10_leastTaken_83 rfl (lv_at hl 3 rfl) ?_
      obtain ⟨hin17, hf⟩ := gi_out hf
      refine va_iald hx hb hK hP 13 1 rfl rfl hin17 dX10_leastTaken_84 ?_
      obtain ⟨k19, ek19, hf⟩ := sq_out hf
      have hk19 : ∀ (f18 : mM), k19 f18 = some (r2, fR) → ∀ (H : Heap) (locs : List Loc) (ls : Array Slot), va_P D vwCl (wR ad cy f18 t) H → va_S (aR ad) s.heap H locs → lv_has ls 4 [(0, .ref (ad 0)), (1, .ref (ad 13)), (2, .int x2), (3, .int x3)] → W p l e R s m args below meth c H locs 0 0 Q (F0 m 97 ls []) := by
        intro f18 hf H locs ls hP hS hl
        have hf := sk1 ek19 f18 hf
        refine lv_aload_n hx hb dX10_leastTaken_97 rfl (lv_at hl 1 rfl) ?_
        refine lv_iload_n hx hb dX10_leastTaken_98 rfl (lv_at hl 3 rfl) ?_
        refine lv_dup2_11 hx hb dX10_leastTaken_99 rfl rfl ?_
        obtain ⟨hin20, hf⟩ := gi_out hf
        refine va_iald hx hb hK hP 13 1 rfl rfl hin20 dX10_leastTaken_100 ?_
        refine lv_iconst (v := 1) hx hb dX10_leastTaken_101 (by decide) ?_
        refine lv_iadd hx hb dX10_leastTaken_102 ?_
        obtain ⟨hin21, hf⟩ := gi_out hf
        obtain ⟨f22, ef22, hf⟩ := sq_out hf
        refine va_iast hx hb hK hP (dR hj f18 t) hS 13 1 rfl rfl hin21 dX10_leastTaken_103 (fun H locs hP _ hS => ?_)
        have hP := sR_13 ef22 hP
        obtain ⟨f31, hlp32, hf⟩ := bi_out hf
        refine lp_X10_leastTaken_104_w C0 hj hR N x2 x3 t f31 ?_ N f22 hlp32 H locs ls hP hS (lv_sub hl [0, 1, 2, 3] rfl)
        intro H locs ls hP hS hl
        refine lv_aload_n hx hb dX10_leastTaken_137 rfl (lv_at hl 1 rfl) ?_
        refine lv_iload_n hx hb dX10_leastTaken_138 rfl (lv_at hl 3 rfl) ?_
        obtain ⟨hin33, hf⟩ := gi_out hf
        refine va_iald hx hb hK hP 13 1 rfl rfl hin33 dX10_leastTaken_139 ?_
        refine lv_aload_n hx hb dX10_leastTaken_140 rfl (lv_at hl 0 rfl) ?_
        refine va_get (D := D) (ci := 10) (v := .ref (ad 16)) (C := RX10) (T := TX10) (N := 34) hx hb hts hiX10 hown hK hP 0 rfl rfl 31 (by decide) lk56 (fun _ h9 => h9) rfl dX10_leastTaken_141 ?_
        refine lv_iload_n hx hb dX10_leastTaken_144 rfl (lv_at hl 3 rfl) ?_
        obtain ⟨hin34, hf⟩ := gi_out hf
        refine va_iald hx hb hK hP 16 1 rfl rfl hin34 dX10_leastTaken_145 ?_
        refine lv_icmp_ne (tgt := 159) hx hb dX10_leastTaken_146 (by decide) (fun c146 => ?_) (fun c146 => ?_)
        · have hf := itF hf c146
          refine lv_aload_n hx hb dX10_leastTaken_159 rfl (lv_at hl 0 rfl) ?_
          refine lv_iload_n hx hb dX10_leastTaken_160 rfl (lv_at hl 3 rfl) ?_
          refine lv_aload_n hx hb dX10_leastTaken_161 rfl (lv_at hl 1 rfl) ?_
          refine lv_iload_n hx hb dX10_leastTaken_162 rfl (lv_at hl 3 rfl) ?_
          obtain ⟨hin35, hf⟩ := gi_out hf
          refine va_iald hx hb hK hP 13 1 rfl rfl hin35 dX10_leastTaken_163 ?_
          refine lv_iconst (v := 1) hx hb dX10_leastTaken_164 (by decide) ?_
          obtain ⟨f36, hq37, hf⟩ := bi_out hf
          refine cw_vv (As := [.int x3, .int (f31 13 (Int32.toNatClampNeg x3)), .int 1]) (rest := []) ⟨hx, hb, hml, hown, hts⟩ xR_S hK hX0 hS hP (c_X10_loads hj l N x3 (f31 13 (Int32.toNatClampNeg x3)) 1 f31 t f36 hq37) (cwV 3 hts gX10_leastTaken_X10_loads rfl rfl rfl (by decide +kernel) ⟨Nat.le_trans (Nat.le_of_ble_eq_true rfl) hR.1, Nat.le_trans (Nat.le_of_ble_eq_true rfl) hR.2⟩) (va_recv hK hP (ci := 10) (q0 := 0) rfl rfl) rfl hl.1 rfl (Nat.le_of_ble_eq_true rfl) ⟨Nat.zero_le _, Nat.zero_le _⟩ dX10_leastTaken_165 (fun H locs hP hS => ?_)
          refine lv_iload_n hx hb dX10_leastTaken_168 rfl (lv_at hl 3 rfl) ?_
          refine lv_aload_n hx hb dX10_leastTaken_169 rfl (lv_at hl 0 rfl) ?_
          refine va_get (D := D) (ci := 10) (v := .int (f36 0 18)) (C := RX10) (T := TX10) (N := 34) hx hb hts hiX10 hown hK hP 0 rfl rfl 18 (by decide) lk154 (fun _ h9 => h9) rfl dX10_leastTaken_170 ?_
          refine lv_iconst (v := 1) hx hb dX10_leastTaken_173 (by decide) ?_
          refine lv_isub hx hb dX10_leastTaken_174 ?_
          refine lv_icmp_ne (tgt := 204) hx hb dX10_leastTaken_175 (by decide) (fun c175 => ?_) (fun c175 => ?_)
          · have hf := itF hf c175
            obtain ⟨x3_38, ex3_38, hf⟩ := sq_out hf
            refine lv_iinc (v := x3_38) (lv' := [(3, .int x3_38), (0, .ref (ad 0)), (1, .ref (ad 13)), (2, .int x2)]) hx hb dX10_leastTaken_204 hl (k := 3) rfl (by rw [ex3_38]; rfl) (by decide) rfl (fun ls hl => ?_)
            refine lv_aload_n hx hb dX10_leastTaken_207 rfl (lv_at hl 2 rfl) ?_
            refine lv_iload_n hx hb dX10_leastTaken_208 rfl (lv_at hl 0 rfl) ?_
            refine lv_iconst (v := (-1)) hx hb dX10_leastTaken_209 (by decide) ?_
            obtain ⟨hin39, hf⟩ := gi_out hf
            obtain ⟨f40, ef40, hf⟩ := sq_out hf
            refine va_iast hx hb hK hP (dR hj f36 t) hS 13 1 rfl rfl hin39 dX10_leastTaken_210 (fun H locs hP _ hS => ?_)
            have hP := sR_13 ef40 hP
            refine lv_goto (tgt := 78) hx hb dX10_leastTaken_211 (by decide) ?_
            exact ih x2 x3_38 f40 hf H locs ls hP hS (lv_sub hl [1, 2, 3, 0] rfl)
          · have hf := itT hf c175
            refine lv_iload_n hx hb dX10_leastTaken_178 rfl (lv_at hl 2 rfl) ?_
            refine lv_bipush (v := (-9)) hx hb dX10_leastTaken_179 (by decide) ?_
            obtain ⟨k41, ek41, hf⟩ := sq_out hf
            have hk41 : k41 () = some (r2, fR) → ∀ (H : Heap) (locs : List Loc) (ls : Array Slot), va_P D vwCl (wR ad cy f36 t) H → va_S (aR ad) s.heap H locs → lv_has ls 4 [(0, .ref (ad 0)), (1, .ref (ad 13)), (3, .int x3)] → W p l e R s m args below meth c H locs 0 0 Q (F0 m 192 ls []) := by
              intro hf H locs ls hP hS hl
              have hf := sk1 ek41 () hf
              refine lv_aload_n hx hb dX10_leastTaken_192 rfl (lv_at hl 0 rfl) ?_
              obtain ⟨y42, hq43, hf⟩ := bi_out hf
              refine cw_vi (As := []) (rest := []) ⟨hx, hb, hml, hown, hts⟩ xR_S hK hX0 hS hP (c_X10_loaded hj l N f36 t y42 hq43) (cwV 0 hts gX10_leastTaken_X10_loaded rfl rfl rfl (by decide +kernel) ⟨Nat.le_trans (Nat.le_of_ble_eq_true rfl) hR.1, Nat.le_trans (Nat.le_of_ble_eq_true rfl) hR.2⟩) (va_recv hK hP (ci := 10) (q0 := 0) rfl rfl) rfl hl.1 rfl (Nat.le_of_ble_eq_true rfl) ⟨Nat.zero_le _, Nat.zero_le _⟩ dX10_leastTaken_193 (fun H locs hP hS => ?_)
              refine lv_goto (tgt := 200) hx hb dX10_leastTaken_196 (by decide) ?_
              refine lv_istore_n (lv' := [(2, .int y42), (0, .ref (ad 0)), (1, .ref (ad 13)), (3, .int x3)]) hx hb dX10_leastTaken_200 rfl hl (by decide) rfl (fun ls hl => ?_)
              refine lv_goto (tgt := 78) hx hb dX10_leastTaken_201 (by decide) ?_
              exact ih y42 x3 f36 hf H locs ls hP hS (lv_sub hl [1, 2, 0, 3] rfl)
            refine lv_icmp_eq (tgt := 192) hx hb dX10_leastTaken_181 (by decide) (fun c181 => ?_) (fun c181 => ?_)
            · have hf := itT hf c181
              exact hk41 hf H locs ls hP hS (lv_sub hl [0, 1, 3] rfl)
            · have hf := itF hf c181
              refine lv_aload_n hx hb dX10_leastTaken_184 rfl (lv_at hl 0 rfl) ?_
              obtain ⟨y44, hq45, hf⟩ := bi_out hf
              refine cw_vi (As := []) (rest := []) ⟨hx, hb, hml, hown, hts⟩ xR_S hK hX0 hS hP (c_X10_loaded hj l N f36 t y44 hq45) (cwV 0 hts gX10_leastTaken_X10_loaded rfl rfl rfl (by decide +kernel) ⟨Nat.le_trans (Nat.le_of_ble_eq_true rfl) hR.1, Nat.le_trans (Nat.le_of_ble_eq_true rfl) hR.2⟩) (va_recv hK hP (ci := 10) (q0 := 0) rfl rfl) rfl hl.1 rfl (Nat.le_of_ble_eq_true rfl) ⟨Nat.zero_le _, Nat.zero_le _⟩ dX10_leastTaken_185 (fun H locs hP hS => ?_)
              refine lv_iload_n hx hb dX10_leastTaken_188 rfl (lv_at hl 2 rfl) ?_
              refine lv_icmp_ge (tgt := 199) hx hb dX10_leastTaken_189 (by decide) (fun c189 => ?_) (fun c189 => ?_)
              · have hf := itT hf c189
                refine lv_iload_n hx hb dX10_leastTaken_199 rfl (lv_at hl 2 rfl) ?_
                refine lv_istore_n (lv' := [(2, .int x2), (0, .ref (ad 0)), (1, .ref (ad 13)), (3, .int x3)]) hx hb dX10_leastTaken_200 rfl hl (by decide) rfl (fun ls hl => ?_)
                refine lv_goto (tgt := 78) hx hb dX10_leastTaken_201 (by decide) ?_
                exact ih x2 x3 f36 hf H locs ls hP hS (lv_sub hl [1, 2, 0, 3] rfl)
              · have hf := itF hf c189
                exact hk41 hf H locs ls hP hS (lv_sub hl [0, 1, 3] rfl)
        · have hf := itT hf c146
          refine lv_aload_n hx hb dX10_leastTaken_149 rfl (lv_at hl 1 rfl) ?_
          refine lv_iload_n hx hb dX10_leastTaken_150 rfl (lv_at hl 3 rfl) ?_
          refine lv_iconst (v := (-1)) hx hb dX10_leastTaken_151 (by decide) ?_
          obtain ⟨hin46, hf⟩ := gi_out hf
          obtain ⟨f47, ef47, hf⟩ := sq_out hf
          refine va_iast hx hb hK hP (dR hj f31 t) hS 13 1 rfl rfl hin46 dX10_leastTaken_152 (fun H locs hP _ hS => ?_)
          have hP := sR_13 ef47 hP
          obtain ⟨x3_48, ex3_48, hf⟩ := sq_out hf
          refine lv_iinc (v := x3_48) (lv' := [(3, .int x3_48), (0, .ref (ad 0)), (1, .ref (ad 13)), (2, .int x2)]) hx hb dX10_leastTaken_153 hl (k := 3) rfl (by rw [ex3_48]; rfl) (by decide) rfl (fun ls hl => ?_)
          refine lv_goto (tgt := 78) hx hb dX10_leastTaken_156 (by decide) ?_
          exact ih x2 x3_48 f47 hf H locs ls hP hS (lv_sub hl [1, 2, 3, 0] rfl)
      refine lv_if_lt (tgt := 97) hx hb dX10_leastTaken_85 (by decide) (fun c85 => ?_) (fun c85 => ?_)
      · have hf := itT hf c85
        exact hk19 f hf H locs ls hP hS (lv_sub hl [0, 1, 2, 3] rfl)
      · have hf := itF hf c85
        refine lv_aload_n hx hb dX10_leastTaken_88 rfl (lv_at hl 0 rfl) ?_
        refine lv_iload_n hx hb dX10_leastTaken_89 rfl (lv_at hl 3 rfl) ?_
        refine lv_aload_n hx hb dX10_leastTaken_90 rfl (lv_at hl 1 rfl) ?_
        refine lv_iload_n hx hb dX10_leastTaken_91 rfl (lv_at hl 3 rfl) ?_
        obtain ⟨hin49, hf⟩ := gi_out hf
        refine va_iald hx hb hK hP 13 1 rfl rfl hin49 dX10_leastTaken_92 ?_
        refine lv_iconst (v := (-1)) hx hb dX10_leastTaken_93 (by decide) ?_
        obtain ⟨f50, hq51, hf⟩ := bi_out hf
        refine cw_vv (As := [.int x3, .int (f 13 (Int32.toNatClampNeg x3)), .int (-1)]) (rest := []) ⟨hx, hb, hml, hown, hts⟩ xR_S hK hX0 hS hP (c_X10_loads hj l N x3 (f 13 (Int32.toNatClampNeg x3)) (-1) f t f50 hq51) (cwV 3 hts gX10_leastTaken_X10_loads rfl rfl rfl (by decide +kernel) ⟨Nat.le_trans (Nat.le_of_ble_eq_true rfl) hR.1, Nat.le_trans (Nat.le_of_ble_eq_true rfl) hR.2⟩) (va_recv hK hP (ci := 10) (q0 := 0) rfl rfl) rfl hl.1 rfl (Nat.le_of_ble_eq_true rfl) ⟨Nat.zero_le _, Nat.zero_le _⟩ dX10_leastTaken_94 (fun H locs hP hS => ?_)
        exact hk19 f50 hf H locs ls hP hS (lv_sub hl [0, 1, 2, 3] rfl)
def q_X10_leastTaken (N : Nat) (f : mM) : Option (Int32 × mM) := bi (lp_X10_leastTaken_2 N N 0 f) (fun f4 => bi (lp_X10_leastTaken_23 N N 0 f4) (fun f9 => sq (fun (v11 : Int32) => sq (fun (v13 : Int32) => gi 0 6 (sq (st2 f9 13 (Int32.toNatClampNeg 0) (-1)) (fun f16 => bi2 (lp_X10_leastTaken_78 N N v11 v13 f16) (fun y52 f53 => some (y52, f53))))) (fun k14 => if (f9 0 18) = 0 then k14 (-1) else k14 0)) (fun k12 => if (f9 0 18) = 0 then k12 0 else k12 (-9))))
set_option maxHeartbeats 4000000 in
set_option maxRecDepth 100000 in
theorem b_X10_leastTaken (C0 : cX p s m args meth c cX10_leastTaken 4 (some .int) RX10 wsX10_leastTaken D cy (xR)) (hj : jR ad) (hR : 3 ≤ R.frames ∧ 77 ≤ R.locals) (N : Nat)  (f : mM) (t : Int64) (r : Int32) (fR : mM) (hf : q_X10_leastTaken N f = some (r, fR)) (kr : ∀ (H : Heap) (locs : List Loc) (ls : Array Slot) (pc : Nat), decode cX10_leastTaken pc = .ok (.ireturn, 1) → va_P D vwCl (wR ad cy fR t) H → va_S (aR ad) s.heap H locs → W p l e R s m args below meth c H locs 0 0 Q (F0 m pc ls [.int r])) (H : Heap) (locs : List Loc) (ls : Array Slot) (hP : va_P D vwCl (wR ad cy f t) H) (hS : va_S (aR ad) s.heap H locs) (hl : lv_has ls 4 [(0, .ref (ad 0))]) : W p l e R s m args below meth c H locs 0 0 Q (F0 m 0 ls []) := by
  obtain ⟨hx, hb, hr, hml, hown, hts, hlocks, hK, hX0⟩ := id C0
  have lk47 := hts (.fieldLink RX10 47 "PlankNineModel" "best" "[I") (List.mem_of_getElem? (i := 3) rfl)
  have hiX10 : ∀ w ∈ u_ws RX10 TX10 34, w ∈ wsX10_leastTaken := fun w h => List.mem_cons_of_mem _ (List.mem_append_right _ h)
  have lk154 := hts (.fieldLink RX10 154 "PlankNineModel" "errandMany" "I") (List.mem_of_getElem? (i := 2) rfl)
  unfold q_X10_leastTaken at hf
  refine lv_iconst (v := 0) hx hb dX10_leastTaken_0 (by decide) ?_
  refine lv_istore_n (lv' := [(1, .int 0), (0, .ref (ad 0))]) hx hb dX10_leastTaken_1 rfl hl (by decide) rfl (fun ls hl => ?_)
  obtain ⟨f4, hlp5, hf⟩ := bi_out hf
  refine lp_X10_leastTaken_2_w C0 hj hR N t f4 ?_ N 0 f hlp5 H locs ls hP hS (lv_sub hl [1, 0] rfl)
  intro H locs ls hP hS hl
  refine lv_iconst (v := 0) hx hb dX10_leastTaken_21 (by decide) ?_
  refine lv_istore_n (lv' := [(1, .int 0), (0, .ref (ad 0))]) hx hb dX10_leastTaken_22 rfl hl (by decide) rfl (fun ls hl => ?_)
  obtain ⟨f9, hlp10, hf⟩ := bi_out hf
  refine lp_X10_leastTaken_23_w C0 hj hR N t f9 ?_ N 0 f4 hlp10 H locs ls hP hS (lv_sub hl [1, 0] rfl)
  intro H locs ls hP hS hl
  refine lv_aload_n hx hb dX10_leastTaken_42 rfl (lv_at hl 0 rfl) ?_
  refine va_get (D := D) (ci := 10) (v := .ref (ad 13)) (C := RX10) (T := TX10) (N := 34) hx hb hts hiX10 hown hK hP 0 rfl rfl 28 (by decide) lk47 (fun _ h9 => h9) rfl dX10_leastTaken_43 ?_
  refine lv_astore_n (lv' := [(1, .ref (ad 13)), (0, .ref (ad 0))]) hx hb dX10_leastTaken_46 rfl hl (by decide) rfl (fun ls hl => ?_)
  refine lv_aload_n hx hb dX10_leastTaken_47 rfl (lv_at hl 1 rfl) ?_
  refine va_get (D := D) (ci := 10) (v := .int (f9 0 18)) (C := RX10) (T := TX10) (N := 34) hx hb hts hiX10 hown hK hP 0 rfl rfl 18 (by decide) lk154 (fun _ h9 => h9) rfl dX10_leastTaken_48 ?_
  obtain ⟨k12, ek12, hf⟩ := sq_out hf
  have hk12 : ∀ (v11 : Int32), k12 v11 = some (r, fR) → ∀ (H : Heap) (locs : List Loc) (ls : Array Slot), va_P D vwCl (wR ad cy f9 t) H → va_S (aR ad) s.heap H locs → lv_has ls 4 [(0, .ref (ad 0)), (1, .ref (ad 13))] → W p l e R s m args below meth c H locs 0 0 Q (F0 m 60 ls [.int v11]) := by
    intro v11 hf H locs ls hP hS hl
    have hf := sk1 ek12 v11 hf
    refine lv_istore_n (lv' := [(2, .int v11), (0, .ref (ad 0)), (1, .ref (ad 13))]) hx hb dX10_leastTaken_60 rfl hl (by decide) rfl (fun ls hl => ?_)
    refine lv_aload_n hx hb dX10_leastTaken_61 rfl (lv_at hl 1 rfl) ?_
    refine va_get (D := D) (ci := 10) (v := .int (f9 0 18)) (C := RX10) (T := TX10) (N := 34) hx hb hts hiX10 hown hK hP 0 rfl rfl 18 (by decide) lk154 (fun _ h9 => h9) rfl dX10_leastTaken_62 ?_
    obtain ⟨k14, ek14, hf⟩ := sq_out hf
    have hk14 : ∀ (v13 : Int32), k14 v13 = some (r, fR) → ∀ (H : Heap) (locs : List Loc) (ls : Array Slot), va_P D vwCl (wR ad cy f9 t) H → va_S (aR ad) s.heap H locs → lv_has ls 4 [(0, .ref (ad 0)), (1, .ref (ad 13)), (2, .int v11)] → W p l e R s m args below meth c H locs 0 0 Q (F0 m 73 ls [.int v13]) := by
      intro v13 hf H locs ls hP hS hl
      have hf := sk1 ek14 v13 hf
      refine lv_istore_n (lv' := [(3, .int v13), (0, .ref (ad 0)), (1, .ref (ad 13)), (2, .int v11)]) hx hb dX10_leastTaken_73 rfl hl (by decide) rfl (fun ls hl => ?_)
      refine lv_aload_n hx hb dX10_leastTaken_74 rfl (lv_at hl 2 rfl) ?_
      refine lv_iconst (v := 0) hx hb dX10_leastTaken_75 (by decide) ?_
      refine lv_iconst (v := (-1)) hx hb dX10_leastTaken_76 (by decide) ?_
      obtain ⟨hin15, hf⟩ := gi_out hf
      obtain ⟨f16, ef16, hf⟩ := sq_out hf
      refine va_iast hx hb hK hP (dR hj f9 t) hS 13 1 rfl rfl hin15 dX10_leastTaken_77 (fun H locs hP _ hS => ?_)
      have hP := sR_13 ef16 hP
      obtain ⟨y52, f53, hlp54, hf⟩ := bi2_out hf
      refine lp_X10_leastTaken_78_w C0 hj hR N t y52 f53 ?_ N v11 v13 f16 hlp54 H locs ls hP hS (lv_sub hl [1, 2, 3, 0] rfl)
      intro H locs ls hP hS hl
      refine lv_iload_n hx hb dX10_leastTaken_214 rfl (lv_at hl 0 rfl) ?_
      obtain ⟨rfl, rfl⟩ := Prod.mk.inj (Option.some.inj hf)
      exact kr H locs ls 215 dX10_leastTaken_215 hP hS
    refine lv_if_ne (tgt := 72) hx hb dX10_leastTaken_65 (by decide) (fun c65 => ?_) (fun c65 => ?_)
    · have hf := itF hf c65
      refine lv_iconst (v := 0) hx hb dX10_leastTaken_72 (by decide) ?_
      exact hk14 0 hf H locs ls hP hS (lv_sub hl [1, 2, 0] rfl)
    · have hf := itT hf c65
      refine lv_iconst (v := (-1)) hx hb dX10_leastTaken_68 (by decide) ?_
      refine lv_goto (tgt := 73) hx hb dX10_leastTaken_69 (by decide) ?_
      exact hk14 (-1) hf H locs ls hP hS (lv_sub hl [1, 2, 0] rfl)
  refine lv_if_ne (tgt := 58) hx hb dX10_leastTaken_51 (by decide) (fun c51 => ?_) (fun c51 => ?_)
  · have hf := itF hf c51
    refine lv_bipush (v := (-9)) hx hb dX10_leastTaken_58 (by decide) ?_
    exact hk12 (-9) hf H locs ls hP hS (lv_sub hl [1, 0] rfl)
  · have hf := itT hf c51
    refine lv_iconst (v := 0) hx hb dX10_leastTaken_54 (by decide) ?_
    refine lv_goto (tgt := 60) hx hb dX10_leastTaken_55 (by decide) ?_
    exact hk12 0 hf H locs ls hP hS (lv_sub hl [1, 0] rfl)
set_option maxHeartbeats 4000000 in
set_option maxRecDepth 100000 in
theorem c_X10_leastTaken (hj : jR ad) (l : Launch) (N : Nat)  (f : mM) (t : Int64) (r : Int32) (fR : mM) (hf : q_X10_leastTaken N f = some (r, fR)) : Met l yX10_leastTaken wsX10_leastTaken ({ frames := 3, cells := 0, slots := 0, locals := 77 }) (va_Pc ([.ref (ad 0)]) (pre D cy (wR ad cy) (xR) f t)) (va_Qi (fun (r2 : Int32) (u : mM × Int64) => r2 = r ∧ u = (fR, t)) (atW D (wR ad cy)) (aR ad)) 0 0 (aR ad) := by
  refine Met.ofW (cc := cX10_leastTaken) (maxL := 4) (ret := (some .int)) (by decide) rfl ?_
  intro p e s m args below meth c s₁ B hml hv
  obtain ⟨rfl, hP, hK, hX0⟩ := hv
  have hl := lv_entry ([.ref (ad 0)]) (n := 4) (Nat.le_of_ble_eq_true rfl)
  rw [lg_entry_eq]
  generalize (lg_sl ([.ref (ad 0)]) ++ List.replicate (4 - (lg_sl ([.ref (ad 0)])).length) Slot.unset).toArray = ls at hl ⊢
  have hlocks := B.notSynchronized
  exact b_X10_leastTaken ⟨B.exec, B.bytes, B.returns, hml, findClass_of_methodNamed B.named, atoms_spec (ws := wsX10_leastTaken) B.pre, hlocks, hK, hX0⟩ hj ⟨Nat.le_refl _, Nat.le_refl _⟩ N  f t r fR hf (fun H locs ls pc hd hP hS => W.iret B.exec B.bytes B.returns (fun t2 ht hW => ⟨⟨r, (fR, t), rfl, ⟨rfl, rfl⟩, by show va_P D vwCl _ t2.heap; rw [ht]; exact hP⟩, hS.F ht⟩) hS.2.2 hd) s.heap [] ls hP va_S.rf hl
def q_X10_all (N : Nat) (x1 : Int32) (f : mM) : Option (Int32 × mM) := sq (st2 f 0 0 0) (fun f1 => bi (q_X10_in x1 0 1) (fun y2 => if y2 = 0 then some ((-1), f1) else bi2 (q_X10_leastTaken N f1) (fun y4 f5 => if x1 = 0 then if y4 = (-9) then some (0, f5) else some (1, f5) else if y4 = (-9) then some ((-9), f5) else bi (q_X10_bornNow N f5) (fun y7 => some ((y7 - y4), f5)))))
set_option maxHeartbeats 4000000 in
set_option maxRecDepth 100000 in
theorem b_X10_all (C0 : cX p s m args meth c cX10_all 3 (some .int) RX10 wsX10_all D cy (xR)) (hj : jR ad) (hR : 4 ≤ R.frames ∧ 100 ≤ R.locals) (N : Nat) (x1 : Int32) (f : mM) (t : Int64) (r : Int32) (fR : mM) (hf : q_X10_all N x1 f = some (r, fR)) (kr : ∀ (H : Heap) (locs : List Loc) (ls : Array Slot) (pc : Nat), decode cX10_all pc = .ok (.ireturn, 1) → va_P D vwCl (wR ad cy fR t) H → va_S (aR ad) s.heap H locs → W p l e R s m args below meth c H locs 0 0 Q (F0 m pc ls [.int r])) (H : Heap) (locs : List Loc) (ls : Array Slot) (hP : va_P D vwCl (wR ad cy f t) H) (hS : va_S (aR ad) s.heap H locs) (hl : lv_has ls 3 [(0, .ref (ad 0)), (1, .int x1)]) : W p l e R s m args below meth c H locs 0 0 Q (F0 m 0 ls []) := by
  obtain ⟨hx, hb, hr, hml, hown, hts, hlocks, hK, hX0⟩ := id C0
  have lk69 := hts (.fieldLink RX10 69 "PlankNineModel" "thrown" "I") (List.mem_of_getElem? (i := 1) rfl)
  have hiX10 : ∀ w ∈ u_ws RX10 TX10 34, w ∈ wsX10_all := fun w h => List.mem_cons_of_mem _ (List.mem_append_right _ h)
  unfold q_X10_all at hf
  refine lv_aload_n hx hb dX10_all_0 rfl (lv_at hl 0 rfl) ?_
  refine lv_iconst (v := 0) hx hb dX10_all_1 (by decide) ?_
  obtain ⟨f1, ef1, hf⟩ := sq_out hf
  refine va_put (D := D) (ci := 10) (v := .int 0) (ty := .int) (C := RX10) (T := TX10) (N := 34) hx hb hts hiX10 tyX10 tyX10_ok nmX10 hown hK hP (dR hj f t) hS 0 rfl rfl 0 (by decide) lk69 (fun _ h9 => h9) rfl (by decide +kernel) rfl rfl (Nat.le_of_ble_eq_true rfl) dX10_all_2 (fun H locs hP _ hS => ?_)
  have hP := sR_0_0 ef1 hP
  refine lv_iload_n hx hb dX10_all_5 rfl (lv_at hl 1 rfl) ?_
  refine lv_iconst (v := 0) hx hb dX10_all_6 (by decide) ?_
  refine lv_iconst (v := 1) hx hb dX10_all_7 (by decide) ?_
  obtain ⟨y2, hq3, hf⟩ := bi_out hf
  refine cw_si (As := [.int x1, .int 0, .int 1]) (rest := []) ⟨hx, hb, hml, hown, hts⟩ xR_S hK hX0 hS hP (c_X10_in hj l x1 0 1 f1 t y2 hq3) (va_cwS 3 hts gX10_all_X10_in rfl rfl rfl (by decide +kernel) ⟨Nat.le_trans (Nat.le_of_ble_eq_true rfl) hR.1, Nat.le_trans (Nat.le_of_ble_eq_true rfl) hR.2⟩) rfl hl.1 rfl (Nat.le_of_ble_eq_true rfl) ⟨Nat.zero_le _, Nat.zero_le _⟩ dX10_all_8 (fun H locs hP hS => ?_)
  refine lv_if_ne (tgt := 16) hx hb dX10_all_11 (by decide) (fun c11 => ?_) (fun c11 => ?_)
  · have hf := itF hf c11
    refine lv_aload_n hx hb dX10_all_16 rfl (lv_at hl 0 rfl) ?_
    obtain ⟨y4, f5, hq6, hf⟩ := bi2_out hf
    refine cw_vi (As := []) (rest := []) ⟨hx, hb, hml, hown, hts⟩ xR_S hK hX0 hS hP (c_X10_leastTaken hj l N f1 t y4 f5 hq6) (cwV 0 hts gX10_all_X10_leastTaken rfl rfl rfl (by decide +kernel) ⟨Nat.le_trans (Nat.le_of_ble_eq_true rfl) hR.1, Nat.le_trans (Nat.le_of_ble_eq_true rfl) hR.2⟩) (va_recv hK hP (ci := 10) (q0 := 0) rfl rfl) rfl hl.1 rfl (Nat.le_of_ble_eq_true rfl) ⟨Nat.zero_le _, Nat.zero_le _⟩ dX10_all_17 (fun H locs hP hS => ?_)
    refine lv_istore_n (lv' := [(2, .int y4), (0, .ref (ad 0)), (1, .int x1)]) hx hb dX10_all_20 rfl hl (by decide) rfl (fun ls hl => ?_)
    refine lv_iload_n hx hb dX10_all_21 rfl (lv_at hl 2 rfl) ?_
    refine lv_if_ne (tgt := 39) hx hb dX10_all_22 (by decide) (fun c22 => ?_) (fun c22 => ?_)
    · have hf := itF hf c22
      refine lv_iload_n hx hb dX10_all_39 rfl (lv_at hl 0 rfl) ?_
      refine lv_bipush (v := (-9)) hx hb dX10_all_40 (by decide) ?_
      refine lv_icmp_ne (tgt := 50) hx hb dX10_all_42 (by decide) (fun c42 => ?_) (fun c42 => ?_)
      · have hf := itF hf c42
        refine lv_aload_n hx hb dX10_all_50 rfl (lv_at hl 1 rfl) ?_
        obtain ⟨y7, hq8, hf⟩ := bi_out hf
        refine cw_vi (As := []) (rest := []) ⟨hx, hb, hml, hown, hts⟩ xR_S hK hX0 hS hP (c_X10_bornNow hj l N f5 t y7 hq8) (cwV 0 hts gX10_all_X10_bornNow rfl rfl rfl (by decide +kernel) ⟨Nat.le_trans (Nat.le_of_ble_eq_true rfl) hR.1, Nat.le_trans (Nat.le_of_ble_eq_true rfl) hR.2⟩) (va_recv hK hP (ci := 10) (q0 := 0) rfl rfl) rfl hl.1 rfl (Nat.le_of_ble_eq_true rfl) ⟨Nat.zero_le _, Nat.zero_le _⟩ dX10_all_51 (fun H locs hP hS => ?_)
        refine lv_iload_n hx hb dX10_all_54 rfl (lv_at hl 0 rfl) ?_
        refine lv_isub hx hb dX10_all_55 ?_
        obtain ⟨rfl, rfl⟩ := Prod.mk.inj (Option.some.inj hf)
        exact kr H locs ls 56 dX10_all_56 hP hS
      · have hf := itT hf c42
        refine lv_bipush (v := (-9)) hx hb dX10_all_45 (by decide) ?_
        refine lv_goto (tgt := 56) hx hb dX10_all_47 (by decide) ?_
        obtain ⟨rfl, rfl⟩ := Prod.mk.inj (Option.some.inj hf)
        exact kr H locs ls 56 dX10_all_56 hP hS
    · have hf := itT hf c22
      refine lv_iload_n hx hb dX10_all_25 rfl (lv_at hl 0 rfl) ?_
      refine lv_bipush (v := (-9)) hx hb dX10_all_26 (by decide) ?_
      refine lv_icmp_ne (tgt := 35) hx hb dX10_all_28 (by decide) (fun c28 => ?_) (fun c28 => ?_)
      · have hf := itF hf c28
        refine lv_iconst (v := 1) hx hb dX10_all_35 (by decide) ?_
        refine lv_goto (tgt := 56) hx hb dX10_all_36 (by decide) ?_
        obtain ⟨rfl, rfl⟩ := Prod.mk.inj (Option.some.inj hf)
        exact kr H locs ls 56 dX10_all_56 hP hS
      · have hf := itT hf c28
        refine lv_iconst (v := 0) hx hb dX10_all_31 (by decide) ?_
        refine lv_goto (tgt := 56) hx hb dX10_all_32 (by decide) ?_
        obtain ⟨rfl, rfl⟩ := Prod.mk.inj (Option.some.inj hf)
        exact kr H locs ls 56 dX10_all_56 hP hS
  · have hf := itT hf c11
    refine lv_iconst (v := (-1)) hx hb dX10_all_14 (by decide) ?_
    obtain ⟨rfl, rfl⟩ := Prod.mk.inj (Option.some.inj hf)
    exact kr H locs ls 15 dX10_all_15 hP hS
set_option maxHeartbeats 4000000 in
set_option maxRecDepth 100000 in
theorem c_X10_all (hj : jR ad) (l : Launch) (N : Nat) (x1 : Int32) (f : mM) (t : Int64) (r : Int32) (fR : mM) (hf : q_X10_all N x1 f = some (r, fR)) : Met l yX10_all wsX10_all ({ frames := 4, cells := 0, slots := 0, locals := 100 }) (va_Pc ([.ref (ad 0), .int x1]) (pre D cy (wR ad cy) (xR) f t)) (va_Qi (fun (r2 : Int32) (u : mM × Int64) => r2 = r ∧ u = (fR, t)) (atW D (wR ad cy)) (aR ad)) 0 0 (aR ad) := by
  refine Met.ofW (cc := cX10_all) (maxL := 3) (ret := (some .int)) (by decide) rfl ?_
  intro p e s m args below meth c s₁ B hml hv
  obtain ⟨rfl, hP, hK, hX0⟩ := hv
  have hl := lv_entry ([.ref (ad 0), .int x1]) (n := 3) (Nat.le_of_ble_eq_true rfl)
  rw [lg_entry_eq]
  generalize (lg_sl ([.ref (ad 0), .int x1]) ++ List.replicate (3 - (lg_sl ([.ref (ad 0), .int x1])).length) Slot.unset).toArray = ls at hl ⊢
  have hlocks := B.notSynchronized
  exact b_X10_all ⟨B.exec, B.bytes, B.returns, hml, findClass_of_methodNamed B.named, atoms_spec (ws := wsX10_all) B.pre, hlocks, hK, hX0⟩ hj ⟨Nat.le_refl _, Nat.le_refl _⟩ N x1 f t r fR hf (fun H locs ls pc hd hP hS => W.iret B.exec B.bytes B.returns (fun t2 ht hW => ⟨⟨r, (fR, t), rfl, ⟨rfl, rfl⟩, by show va_P D vwCl _ t2.heap; rw [ht]; exact hP⟩, hS.F ht⟩) hS.2.2 hd) s.heap [] ls hP va_S.rf hl
