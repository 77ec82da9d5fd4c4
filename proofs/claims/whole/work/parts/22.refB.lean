variable {p : Program} {l : Launch} {e : Env} {R : Room} {s : State} {m : MethodId} {args : Array Value} {below : List Frame} {meth : Method} {c : Code} {Q : State → Prop} {D : va_G} {cy : Nat → ClassId} {ad sk sv : Nat → Nat}
def q_X10_readsItem (N : Nat) (x1 : Int32) (f : mM) : Option (mM) := if x1 = 0 then bi2 (q_X10_number N 2 6 f) (fun y45 f46 => bi (q_X10_isWell f46) (fun y48 => sq (fun (v50 : Int32) => sq (st2 f46 0 19 v50) (fun f52 => some f52)) (fun k51 => if y48 = 0 then k51 (f46 0 19) else k51 y45))) else if x1 = 1 then bi2 (q_X10_number N 0 ((f 0 19) - 1) f) (fun y29 f30 => gi (9 + (f30 0 20)) 18 (sq (st2 f30 2 (Int32.toNatClampNeg (9 + (f30 0 20))) y29) (fun f33 => bi2 (q_X10_unlike N y29 f33) (fun y34 f35 => gi (9 + (f33 0 20)) 18 (sq (st2 f35 3 (Int32.toNatClampNeg (9 + (f33 0 20))) y34) (fun f38 => bi2 (q_X10_number N 0 9 f38) (fun y39 f40 => gi (9 + (f38 0 20)) 18 (sq (st2 f40 4 (Int32.toNatClampNeg (9 + (f38 0 20))) y39) (fun f43 => sq (st2 f43 0 20 ((f43 0 20) + 1)) (fun f44 => some f44)))))))))) else if x1 = 2 then bi2 (q_X10_number N 1 3 f) (fun y18 f19 => gi (4 + (f 0 21)) 8 (sq (st2 f19 5 (Int32.toNatClampNeg (4 + (f 0 21))) y18) (fun f22 => bi2 (q_X10_number N 1 2 f22) (fun y23 f24 => gi (4 + (f22 0 21)) 8 (sq (st2 f24 6 (Int32.toNatClampNeg (4 + (f22 0 21))) y23) (fun f27 => sq (st2 f27 0 21 ((f27 0 21) + 1)) (fun f28 => some f28))))))) else sq (9 + (3 * (f 0 22))) (fun x2_1 => bi2 (q_X10_number N 0 ((f 0 21) - 1) f) (fun y2 f3 => gi x2_1 18 (sq (st2 f3 7 (Int32.toNatClampNeg x2_1) y2) (fun f6 => bi2 (q_X10_number N 0 ((f6 0 19) - 1) f6) (fun y7 f8 => gi (x2_1 + 1) 18 (sq (st2 f8 7 (Int32.toNatClampNeg (x2_1 + 1)) y7) (fun f11 => bi2 (q_X10_unlike N y7 f11) (fun y12 f13 => gi (x2_1 + 2) 18 (sq (st2 f13 7 (Int32.toNatClampNeg (x2_1 + 2)) y12) (fun f16 => sq (st2 f16 0 22 ((f16 0 22) + 1)) (fun f17 => some f17)))))))))))
set_option maxHeartbeats 4000000 in
set_option maxRecDepth 100000 in
theorem b_X10_readsItem (C0 : cX p s m args meth c cX10_readsItem 4 none RX10 wsX10_readsItem D cy (xR)) (hj : jR ad) (hR : 6 ≤ R.frames ∧ 136 ≤ R.locals) (N : Nat) (x1 : Int32) (f : mM) (t : Int64) (fR : mM) (hf : q_X10_readsItem N x1 f = some fR) (kr : ∀ (H : Heap) (locs : List Loc) (ls : Array Slot) (pc : Nat), decode cX10_readsItem pc = .ok (.return_, 1) → va_P D vwCl (wR ad cy fR t) H → va_S (aR ad) s.heap H locs → W p l e R s m args below meth c H locs 0 0 Q (F0 m pc ls [])) (H : Heap) (locs : List Loc) (ls : Array Slot) (hP : va_P D vwCl (wR ad cy f t) H) (hS : va_S (aR ad) s.heap H locs) (hl : lv_has ls 4 [(0, .ref (ad 0)), (1, .int x1)]) : W p l e R s m args below meth c H locs 0 0 Q (F0 m 0 ls []) := by
  obtain ⟨hx, hb, hr, hml, hown, hts, hlocks, hK, hX0⟩ := id C0
  have lk141 := hts (.fieldLink RX10 141 "PlankNineModel" "draftErrands" "I") (List.mem_of_getElem? (i := 9) rfl)
  have hiX10 : ∀ w ∈ u_ws RX10 TX10 34, w ∈ wsX10_readsItem := fun w h => List.mem_cons_of_mem _ (List.mem_append_right _ h)
  have lk28 := hts (.fieldLink RX10 28 "PlankNineModel" "errands" "[I") (List.mem_of_getElem? (i := 10) rfl)
  have lk138 := hts (.fieldLink RX10 138 "PlankNineModel" "draftPeople" "I") (List.mem_of_getElem? (i := 7) rfl)
  have lk125 := hts (.fieldLink RX10 125 "PlankNineModel" "draftPlaces" "I") (List.mem_of_getElem? (i := 1) rfl)
  have lk22 := hts (.fieldLink RX10 22 "PlankNineModel" "weight" "[I") (List.mem_of_getElem? (i := 6) rfl)
  have lk25 := hts (.fieldLink RX10 25 "PlankNineModel" "stride" "[I") (List.mem_of_getElem? (i := 8) rfl)
  have lk13 := hts (.fieldLink RX10 13 "PlankNineModel" "one" "[I") (List.mem_of_getElem? (i := 2) rfl)
  have lk132 := hts (.fieldLink RX10 132 "PlankNineModel" "draftPlanks" "I") (List.mem_of_getElem? (i := 3) rfl)
  have lk16 := hts (.fieldLink RX10 16 "PlankNineModel" "other" "[I") (List.mem_of_getElem? (i := 4) rfl)
  have lk19 := hts (.fieldLink RX10 19 "PlankNineModel" "bears" "[I") (List.mem_of_getElem? (i := 5) rfl)
  unfold q_X10_readsItem at hf
  refine lv_iload_n hx hb dX10_readsItem_0 rfl (lv_at hl 1 rfl) ?_
  refine lv_if_ne (tgt := 34) hx hb dX10_readsItem_1 (by decide) (fun c1 => ?_) (fun c1 => ?_)
  · have hf := itF hf c1
    refine lv_iload_n hx hb dX10_readsItem_34 rfl (lv_at hl 1 rfl) ?_
    refine lv_iconst (v := 1) hx hb dX10_readsItem_35 (by decide) ?_
    refine lv_icmp_ne (tgt := 113) hx hb dX10_readsItem_36 (by decide) (fun c36 => ?_) (fun c36 => ?_)
    · have hf := itF hf c36
      refine lv_iload_n hx hb dX10_readsItem_113 rfl (lv_at hl 1 rfl) ?_
      refine lv_iconst (v := 2) hx hb dX10_readsItem_114 (by decide) ?_
      refine lv_icmp_ne (tgt := 165) hx hb dX10_readsItem_115 (by decide) (fun c115 => ?_) (fun c115 => ?_)
      · have hf := itF hf c115
        refine lv_bipush (v := 9) hx hb dX10_readsItem_165 (by decide) ?_
        refine lv_iconst (v := 3) hx hb dX10_readsItem_167 (by decide) ?_
        refine lv_aload_n hx hb dX10_readsItem_168 rfl (lv_at hl 0 rfl) ?_
        refine va_get (D := D) (ci := 10) (v := .int (f 0 22)) (C := RX10) (T := TX10) (N := 34) hx hb hts hiX10 hown hK hP 0 rfl rfl 22 (by decide) lk141 (fun _ h9 => h9) rfl dX10_readsItem_169 ?_
        refine lv_imul hx hb dX10_readsItem_172 ?_
        refine lv_iadd hx hb dX10_readsItem_173 ?_
        obtain ⟨x2_1, ex2_1, hf⟩ := sq_out hf
        refine lv_nmi ex2_1 ?_
        refine lv_istore_n (lv' := [(2, .int x2_1), (0, .ref (ad 0)), (1, .int x1)]) hx hb dX10_readsItem_174 rfl hl (by decide) rfl (fun ls hl => ?_)
        refine lv_aload_n hx hb dX10_readsItem_175 rfl (lv_at hl 1 rfl) ?_
        refine va_get (D := D) (ci := 10) (v := .ref (ad 7)) (C := RX10) (T := TX10) (N := 34) hx hb hts hiX10 hown hK hP 0 rfl rfl 14 (by decide) lk28 (fun _ h9 => h9) rfl dX10_readsItem_176 ?_
        refine lv_iload_n hx hb dX10_readsItem_179 rfl (lv_at hl 0 rfl) ?_
        refine lv_aload_n hx hb dX10_readsItem_180 rfl (lv_at hl 1 rfl) ?_
        refine lv_iconst (v := 0) hx hb dX10_readsItem_181 (by decide) ?_
        refine lv_aload_n hx hb dX10_readsItem_182 rfl (lv_at hl 1 rfl) ?_
        refine va_get (D := D) (ci := 10) (v := .int (f 0 21)) (C := RX10) (T := TX10) (N := 34) hx hb hts hiX10 hown hK hP 0 rfl rfl 21 (by decide) lk138 (fun _ h9 => h9) rfl dX10_readsItem_183 ?_
        refine lv_iconst (v := 1) hx hb dX10_readsItem_186 (by decide) ?_
        refine lv_isub hx hb dX10_readsItem_187 ?_
        obtain ⟨y2, f3, hq4, hf⟩ := bi2_out hf
        refine cw_vi (As := [.int 0, .int ((f 0 21) - 1)]) (rest := [.int x2_1, .ref (ad 7)]) ⟨hx, hb, hml, hown, hts⟩ xR_S hK hX0 hS hP (c_X10_number hj l N 0 ((f 0 21) - 1) f t y2 f3 hq4) (cwV 2 hts gX10_readsItem_X10_number rfl rfl rfl (by decide +kernel) ⟨Nat.le_trans (Nat.le_of_ble_eq_true rfl) hR.1, Nat.le_trans (Nat.le_of_ble_eq_true rfl) hR.2⟩) (va_recv hK hP (ci := 10) (q0 := 0) rfl rfl) rfl hl.1 rfl (Nat.le_of_ble_eq_true rfl) ⟨Nat.zero_le _, Nat.zero_le _⟩ dX10_readsItem_188 (fun H locs hP hS => ?_)
        obtain ⟨hin5, hf⟩ := gi_out hf
        obtain ⟨f6, ef6, hf⟩ := sq_out hf
        refine va_iast hx hb hK hP (dR hj f3 t) hS 7 1 rfl rfl hin5 dX10_readsItem_191 (fun H locs hP _ hS => ?_)
        have hP := sR_7 ef6 hP
        refine lv_aload_n hx hb dX10_readsItem_192 rfl (lv_at hl 1 rfl) ?_
        refine lv_iconst (v := 0) hx hb dX10_readsItem_193 (by decide) ?_
        refine lv_aload_n hx hb dX10_readsItem_194 rfl (lv_at hl 1 rfl) ?_
        refine va_get (D := D) (ci := 10) (v := .int (f6 0 19)) (C := RX10) (T := TX10) (N := 34) hx hb hts hiX10 hown hK hP 0 rfl rfl 19 (by decide) lk125 (fun _ h9 => h9) rfl dX10_readsItem_195 ?_
        refine lv_iconst (v := 1) hx hb dX10_readsItem_198 (by decide) ?_
        refine lv_isub hx hb dX10_readsItem_199 ?_
        obtain ⟨y7, f8, hq9, hf⟩ := bi2_out hf
        refine cw_vi (As := [.int 0, .int ((f6 0 19) - 1)]) (rest := []) ⟨hx, hb, hml, hown, hts⟩ xR_S hK hX0 hS hP (c_X10_number hj l N 0 ((f6 0 19) - 1) f6 t y7 f8 hq9) (cwV 2 hts gX10_readsItem_X10_number rfl rfl rfl (by decide +kernel) ⟨Nat.le_trans (Nat.le_of_ble_eq_true rfl) hR.1, Nat.le_trans (Nat.le_of_ble_eq_true rfl) hR.2⟩) (va_recv hK hP (ci := 10) (q0 := 0) rfl rfl) rfl hl.1 rfl (Nat.le_of_ble_eq_true rfl) ⟨Nat.zero_le _, Nat.zero_le _⟩ dX10_readsItem_200 (fun H locs hP hS => ?_)
        refine lv_istore_n (lv' := [(3, .int y7), (2, .int x2_1), (0, .ref (ad 0)), (1, .int x1)]) hx hb dX10_readsItem_203 rfl hl (by decide) rfl (fun ls hl => ?_)
        refine lv_aload_n hx hb dX10_readsItem_204 rfl (lv_at hl 2 rfl) ?_
        refine va_get (D := D) (ci := 10) (v := .ref (ad 7)) (C := RX10) (T := TX10) (N := 34) hx hb hts hiX10 hown hK hP 0 rfl rfl 14 (by decide) lk28 (fun _ h9 => h9) rfl dX10_readsItem_205 ?_
        refine lv_iload_n hx hb dX10_readsItem_208 rfl (lv_at hl 1 rfl) ?_
        refine lv_iconst (v := 1) hx hb dX10_readsItem_209 (by decide) ?_
        refine lv_iadd hx hb dX10_readsItem_210 ?_
        refine lv_iload_n hx hb dX10_readsItem_211 rfl (lv_at hl 0 rfl) ?_
        obtain ⟨hin10, hf⟩ := gi_out hf
        obtain ⟨f11, ef11, hf⟩ := sq_out hf
        refine va_iast hx hb hK hP (dR hj f8 t) hS 7 1 rfl rfl hin10 dX10_readsItem_212 (fun H locs hP _ hS => ?_)
        have hP := sR_7 ef11 hP
        refine lv_aload_n hx hb dX10_readsItem_213 rfl (lv_at hl 2 rfl) ?_
        refine va_get (D := D) (ci := 10) (v := .ref (ad 7)) (C := RX10) (T := TX10) (N := 34) hx hb hts hiX10 hown hK hP 0 rfl rfl 14 (by decide) lk28 (fun _ h9 => h9) rfl dX10_readsItem_214 ?_
        refine lv_iload_n hx hb dX10_readsItem_217 rfl (lv_at hl 1 rfl) ?_
        refine lv_iconst (v := 2) hx hb dX10_readsItem_218 (by decide) ?_
        refine lv_iadd hx hb dX10_readsItem_219 ?_
        refine lv_aload_n hx hb dX10_readsItem_220 rfl (lv_at hl 2 rfl) ?_
        refine lv_iload_n hx hb dX10_readsItem_221 rfl (lv_at hl 0 rfl) ?_
        obtain ⟨y12, f13, hq14, hf⟩ := bi2_out hf
        refine cw_vi (As := [.int y7]) (rest := [.int (x2_1 + 2), .ref (ad 7)]) ⟨hx, hb, hml, hown, hts⟩ xR_S hK hX0 hS hP (c_X10_unlike hj l N y7 f11 t y12 f13 hq14) (cwV 1 hts gX10_readsItem_X10_unlike rfl rfl rfl (by decide +kernel) ⟨Nat.le_trans (Nat.le_of_ble_eq_true rfl) hR.1, Nat.le_trans (Nat.le_of_ble_eq_true rfl) hR.2⟩) (va_recv hK hP (ci := 10) (q0 := 0) rfl rfl) rfl hl.1 rfl (Nat.le_of_ble_eq_true rfl) ⟨Nat.zero_le _, Nat.zero_le _⟩ dX10_readsItem_222 (fun H locs hP hS => ?_)
        obtain ⟨hin15, hf⟩ := gi_out hf
        obtain ⟨f16, ef16, hf⟩ := sq_out hf
        refine va_iast hx hb hK hP (dR hj f13 t) hS 7 1 rfl rfl hin15 dX10_readsItem_225 (fun H locs hP _ hS => ?_)
        have hP := sR_7 ef16 hP
        refine lv_aload_n hx hb dX10_readsItem_226 rfl (lv_at hl 2 rfl) ?_
        refine lv_dup hx hb dX10_readsItem_227 rfl ?_
        refine va_get (D := D) (ci := 10) (v := .int (f16 0 22)) (C := RX10) (T := TX10) (N := 34) hx hb hts hiX10 hown hK hP 0 rfl rfl 22 (by decide) lk141 (fun _ h9 => h9) rfl dX10_readsItem_228 ?_
        refine lv_iconst (v := 1) hx hb dX10_readsItem_231 (by decide) ?_
        refine lv_iadd hx hb dX10_readsItem_232 ?_
        obtain ⟨f17, ef17, hf⟩ := sq_out hf
        refine va_put (D := D) (ci := 10) (v := .int ((f16 0 22) + 1)) (ty := .int) (C := RX10) (T := TX10) (N := 34) hx hb hts hiX10 tyX10 tyX10_ok nmX10 hown hK hP (dR hj f16 t) hS 0 rfl rfl 22 (by decide) lk141 (fun _ h9 => h9) rfl (by decide +kernel) rfl rfl (Nat.le_of_ble_eq_true rfl) dX10_readsItem_233 (fun H locs hP _ hS => ?_)
        have hP := sR_0_22 ef17 hP
        obtain rfl := Option.some.inj hf
        exact kr H locs ls 236 dX10_readsItem_236 hP hS
      · have hf := itT hf c115
        refine lv_aload_n hx hb dX10_readsItem_118 rfl (lv_at hl 0 rfl) ?_
        refine va_get (D := D) (ci := 10) (v := .ref (ad 5)) (C := RX10) (T := TX10) (N := 34) hx hb hts hiX10 hown hK hP 0 rfl rfl 12 (by decide) lk22 (fun _ h9 => h9) rfl dX10_readsItem_119 ?_
        refine lv_iconst (v := 4) hx hb dX10_readsItem_122 (by decide) ?_
        refine lv_aload_n hx hb dX10_readsItem_123 rfl (lv_at hl 0 rfl) ?_
        refine va_get (D := D) (ci := 10) (v := .int (f 0 21)) (C := RX10) (T := TX10) (N := 34) hx hb hts hiX10 hown hK hP 0 rfl rfl 21 (by decide) lk138 (fun _ h9 => h9) rfl dX10_readsItem_124 ?_
        refine lv_iadd hx hb dX10_readsItem_127 ?_
        refine lv_aload_n hx hb dX10_readsItem_128 rfl (lv_at hl 0 rfl) ?_
        refine lv_iconst (v := 1) hx hb dX10_readsItem_129 (by decide) ?_
        refine lv_iconst (v := 3) hx hb dX10_readsItem_130 (by decide) ?_
        obtain ⟨y18, f19, hq20, hf⟩ := bi2_out hf
        refine cw_vi (As := [.int 1, .int 3]) (rest := [.int (4 + (f 0 21)), .ref (ad 5)]) ⟨hx, hb, hml, hown, hts⟩ xR_S hK hX0 hS hP (c_X10_number hj l N 1 3 f t y18 f19 hq20) (cwV 2 hts gX10_readsItem_X10_number rfl rfl rfl (by decide +kernel) ⟨Nat.le_trans (Nat.le_of_ble_eq_true rfl) hR.1, Nat.le_trans (Nat.le_of_ble_eq_true rfl) hR.2⟩) (va_recv hK hP (ci := 10) (q0 := 0) rfl rfl) rfl hl.1 rfl (Nat.le_of_ble_eq_true rfl) ⟨Nat.zero_le _, Nat.zero_le _⟩ dX10_readsItem_131 (fun H locs hP hS => ?_)
        obtain ⟨hin21, hf⟩ := gi_out hf
        obtain ⟨f22, ef22, hf⟩ := sq_out hf
        refine va_iast hx hb hK hP (dR hj f19 t) hS 5 1 rfl rfl hin21 dX10_readsItem_134 (fun H locs hP _ hS => ?_)
        have hP := sR_5 ef22 hP
        refine lv_aload_n hx hb dX10_readsItem_135 rfl (lv_at hl 0 rfl) ?_
        refine va_get (D := D) (ci := 10) (v := .ref (ad 6)) (C := RX10) (T := TX10) (N := 34) hx hb hts hiX10 hown hK hP 0 rfl rfl 13 (by decide) lk25 (fun _ h9 => h9) rfl dX10_readsItem_136 ?_
        refine lv_iconst (v := 4) hx hb dX10_readsItem_139 (by decide) ?_
        refine lv_aload_n hx hb dX10_readsItem_140 rfl (lv_at hl 0 rfl) ?_
        refine va_get (D := D) (ci := 10) (v := .int (f22 0 21)) (C := RX10) (T := TX10) (N := 34) hx hb hts hiX10 hown hK hP 0 rfl rfl 21 (by decide) lk138 (fun _ h9 => h9) rfl dX10_readsItem_141 ?_
        refine lv_iadd hx hb dX10_readsItem_144 ?_
        refine lv_aload_n hx hb dX10_readsItem_145 rfl (lv_at hl 0 rfl) ?_
        refine lv_iconst (v := 1) hx hb dX10_readsItem_146 (by decide) ?_
        refine lv_iconst (v := 2) hx hb dX10_readsItem_147 (by decide) ?_
        obtain ⟨y23, f24, hq25, hf⟩ := bi2_out hf
        refine cw_vi (As := [.int 1, .int 2]) (rest := [.int (4 + (f22 0 21)), .ref (ad 6)]) ⟨hx, hb, hml, hown, hts⟩ xR_S hK hX0 hS hP (c_X10_number hj l N 1 2 f22 t y23 f24 hq25) (cwV 2 hts gX10_readsItem_X10_number rfl rfl rfl (by decide +kernel) ⟨Nat.le_trans (Nat.le_of_ble_eq_true rfl) hR.1, Nat.le_trans (Nat.le_of_ble_eq_true rfl) hR.2⟩) (va_recv hK hP (ci := 10) (q0 := 0) rfl rfl) rfl hl.1 rfl (Nat.le_of_ble_eq_true rfl) ⟨Nat.zero_le _, Nat.zero_le _⟩ dX10_readsItem_148 (fun H locs hP hS => ?_)
        obtain ⟨hin26, hf⟩ := gi_out hf
        obtain ⟨f27, ef27, hf⟩ := sq_out hf
        refine va_iast hx hb hK hP (dR hj f24 t) hS 6 1 rfl rfl hin26 dX10_readsItem_151 (fun H locs hP _ hS => ?_)
        have hP := sR_6 ef27 hP
        refine lv_aload_n hx hb dX10_readsItem_152 rfl (lv_at hl 0 rfl) ?_
        refine lv_dup hx hb dX10_readsItem_153 rfl ?_
        refine va_get (D := D) (ci := 10) (v := .int (f27 0 21)) (C := RX10) (T := TX10) (N := 34) hx hb hts hiX10 hown hK hP 0 rfl rfl 21 (by decide) lk138 (fun _ h9 => h9) rfl dX10_readsItem_154 ?_
        refine lv_iconst (v := 1) hx hb dX10_readsItem_157 (by decide) ?_
        refine lv_iadd hx hb dX10_readsItem_158 ?_
        obtain ⟨f28, ef28, hf⟩ := sq_out hf
        refine va_put (D := D) (ci := 10) (v := .int ((f27 0 21) + 1)) (ty := .int) (C := RX10) (T := TX10) (N := 34) hx hb hts hiX10 tyX10 tyX10_ok nmX10 hown hK hP (dR hj f27 t) hS 0 rfl rfl 21 (by decide) lk138 (fun _ h9 => h9) rfl (by decide +kernel) rfl rfl (Nat.le_of_ble_eq_true rfl) dX10_readsItem_159 (fun H locs hP _ hS => ?_)
        have hP := sR_0_21 ef28 hP
        refine lv_goto (tgt := 236) hx hb dX10_readsItem_162 (by decide) ?_
        obtain rfl := Option.some.inj hf
        exact kr H locs ls 236 dX10_readsItem_236 hP hS
    · have hf := itT hf c36
      refine lv_aload_n hx hb dX10_readsItem_39 rfl (lv_at hl 0 rfl) ?_
      refine lv_iconst (v := 0) hx hb dX10_readsItem_40 (by decide) ?_
      refine lv_aload_n hx hb dX10_readsItem_41 rfl (lv_at hl 0 rfl) ?_
      refine va_get (D := D) (ci := 10) (v := .int (f 0 19)) (C := RX10) (T := TX10) (N := 34) hx hb hts hiX10 hown hK hP 0 rfl rfl 19 (by decide) lk125 (fun _ h9 => h9) rfl dX10_readsItem_42 ?_
      refine lv_iconst (v := 1) hx hb dX10_readsItem_45 (by decide) ?_
      refine lv_isub hx hb dX10_readsItem_46 ?_
      obtain ⟨y29, f30, hq31, hf⟩ := bi2_out hf
      refine cw_vi (As := [.int 0, .int ((f 0 19) - 1)]) (rest := []) ⟨hx, hb, hml, hown, hts⟩ xR_S hK hX0 hS hP (c_X10_number hj l N 0 ((f 0 19) - 1) f t y29 f30 hq31) (cwV 2 hts gX10_readsItem_X10_number rfl rfl rfl (by decide +kernel) ⟨Nat.le_trans (Nat.le_of_ble_eq_true rfl) hR.1, Nat.le_trans (Nat.le_of_ble_eq_true rfl) hR.2⟩) (va_recv hK hP (ci := 10) (q0 := 0) rfl rfl) rfl hl.1 rfl (Nat.le_of_ble_eq_true rfl) ⟨Nat.zero_le _, Nat.zero_le _⟩ dX10_readsItem_47 (fun H locs hP hS => ?_)
      refine lv_istore_n (lv' := [(2, .int y29), (0, .ref (ad 0)), (1, .int x1)]) hx hb dX10_readsItem_50 rfl hl (by decide) rfl (fun ls hl => ?_)
      refine lv_aload_n hx hb dX10_readsItem_51 rfl (lv_at hl 1 rfl) ?_
      refine va_get (D := D) (ci := 10) (v := .ref (ad 2)) (C := RX10) (T := TX10) (N := 34) hx hb hts hiX10 hown hK hP 0 rfl rfl 9 (by decide) lk13 (fun _ h9 => h9) rfl dX10_readsItem_52 ?_
      refine lv_bipush (v := 9) hx hb dX10_readsItem_55 (by decide) ?_
      refine lv_aload_n hx hb dX10_readsItem_57 rfl (lv_at hl 1 rfl) ?_
      refine va_get (D := D) (ci := 10) (v := .int (f30 0 20)) (C := RX10) (T := TX10) (N := 34) hx hb hts hiX10 hown hK hP 0 rfl rfl 20 (by decide) lk132 (fun _ h9 => h9) rfl dX10_readsItem_58 ?_
      refine lv_iadd hx hb dX10_readsItem_61 ?_
      refine lv_iload_n hx hb dX10_readsItem_62 rfl (lv_at hl 0 rfl) ?_
      obtain ⟨hin32, hf⟩ := gi_out hf
      obtain ⟨f33, ef33, hf⟩ := sq_out hf
      refine va_iast hx hb hK hP (dR hj f30 t) hS 2 1 rfl rfl hin32 dX10_readsItem_63 (fun H locs hP _ hS => ?_)
      have hP := sR_2 ef33 hP
      refine lv_aload_n hx hb dX10_readsItem_64 rfl (lv_at hl 1 rfl) ?_
      refine va_get (D := D) (ci := 10) (v := .ref (ad 3)) (C := RX10) (T := TX10) (N := 34) hx hb hts hiX10 hown hK hP 0 rfl rfl 10 (by decide) lk16 (fun _ h9 => h9) rfl dX10_readsItem_65 ?_
      refine lv_bipush (v := 9) hx hb dX10_readsItem_68 (by decide) ?_
      refine lv_aload_n hx hb dX10_readsItem_70 rfl (lv_at hl 1 rfl) ?_
      refine va_get (D := D) (ci := 10) (v := .int (f33 0 20)) (C := RX10) (T := TX10) (N := 34) hx hb hts hiX10 hown hK hP 0 rfl rfl 20 (by decide) lk132 (fun _ h9 => h9) rfl dX10_readsItem_71 ?_
      refine lv_iadd hx hb dX10_readsItem_74 ?_
      refine lv_aload_n hx hb dX10_readsItem_75 rfl (lv_at hl 1 rfl) ?_
      refine lv_iload_n hx hb dX10_readsItem_76 rfl (lv_at hl 0 rfl) ?_
      obtain ⟨y34, f35, hq36, hf⟩ := bi2_out hf
      refine cw_vi (As := [.int y29]) (rest := [.int (9 + (f33 0 20)), .ref (ad 3)]) ⟨hx, hb, hml, hown, hts⟩ xR_S hK hX0 hS hP (c_X10_unlike hj l N y29 f33 t y34 f35 hq36) (cwV 1 hts gX10_readsItem_X10_unlike rfl rfl rfl (by decide +kernel) ⟨Nat.le_trans (Nat.le_of_ble_eq_true rfl) hR.1, Nat.le_trans (Nat.le_of_ble_eq_true rfl) hR.2⟩) (va_recv hK hP (ci := 10) (q0 := 0) rfl rfl) rfl hl.1 rfl (Nat.le_of_ble_eq_true rfl) ⟨Nat.zero_le _, Nat.zero_le _⟩ dX10_readsItem_77 (fun H locs hP hS => ?_)
      obtain ⟨hin37, hf⟩ := gi_out hf
      obtain ⟨f38, ef38, hf⟩ := sq_out hf
      refine va_iast hx hb hK hP (dR hj f35 t) hS 3 1 rfl rfl hin37 dX10_readsItem_80 (fun H locs hP _ hS => ?_)
      have hP := sR_3 ef38 hP
      refine lv_aload_n hx hb dX10_readsItem_81 rfl (lv_at hl 1 rfl) ?_
      refine va_get (D := D) (ci := 10) (v := .ref (ad 4)) (C := RX10) (T := TX10) (N := 34) hx hb hts hiX10 hown hK hP 0 rfl rfl 11 (by decide) lk19 (fun _ h9 => h9) rfl dX10_readsItem_82 ?_
      refine lv_bipush (v := 9) hx hb dX10_readsItem_85 (by decide) ?_
      refine lv_aload_n hx hb dX10_readsItem_87 rfl (lv_at hl 1 rfl) ?_
      refine va_get (D := D) (ci := 10) (v := .int (f38 0 20)) (C := RX10) (T := TX10) (N := 34) hx hb hts hiX10 hown hK hP 0 rfl rfl 20 (by decide) lk132 (fun _ h9 => h9) rfl dX10_readsItem_88 ?_
      refine lv_iadd hx hb dX10_readsItem_91 ?_
      refine lv_aload_n hx hb dX10_readsItem_92 rfl (lv_at hl 1 rfl) ?_
      refine lv_iconst (v := 0) hx hb dX10_readsItem_93 (by decide) ?_
      refine lv_bipush (v := 9) hx hb dX10_readsItem_94 (by decide) ?_
      obtain ⟨y39, f40, hq41, hf⟩ := bi2_out hf
      refine cw_vi (As := [.int 0, .int 9]) (rest := [.int (9 + (f38 0 20)), .ref (ad 4)]) ⟨hx, hb, hml, hown, hts⟩ xR_S hK hX0 hS hP (c_X10_number hj l N 0 9 f38 t y39 f40 hq41) (cwV 2 hts gX10_readsItem_X10_number rfl rfl rfl (by decide +kernel) ⟨Nat.le_trans (Nat.le_of_ble_eq_true rfl) hR.1, Nat.le_trans (Nat.le_of_ble_eq_true rfl) hR.2⟩) (va_recv hK hP (ci := 10) (q0 := 0) rfl rfl) rfl hl.1 rfl (Nat.le_of_ble_eq_true rfl) ⟨Nat.zero_le _, Nat.zero_le _⟩ dX10_readsItem_96 (fun H locs hP hS => ?_)
      obtain ⟨hin42, hf⟩ := gi_out hf
      obtain ⟨f43, ef43, hf⟩ := sq_out hf
      refine va_iast hx hb hK hP (dR hj f40 t) hS 4 1 rfl rfl hin42 dX10_readsItem_99 (fun H locs hP _ hS => ?_)
      have hP := sR_4 ef43 hP
      refine lv_aload_n hx hb dX10_readsItem_100 rfl (lv_at hl 1 rfl) ?_
      refine lv_dup hx hb dX10_readsItem_101 rfl ?_
      refine va_get (D := D) (ci := 10) (v := .int (f43 0 20)) (C := RX10) (T := TX10) (N := 34) hx hb hts hiX10 hown hK hP 0 rfl rfl 20 (by decide) lk132 (fun _ h9 => h9) rfl dX10_readsItem_102 ?_
      refine lv_iconst (v := 1) hx hb dX10_readsItem_105 (by decide) ?_
      refine lv_iadd hx hb dX10_readsItem_106 ?_
      obtain ⟨f44, ef44, hf⟩ := sq_out hf
      refine va_put (D := D) (ci := 10) (v := .int ((f43 0 20) + 1)) (ty := .int) (C := RX10) (T := TX10) (N := 34) hx hb hts hiX10 tyX10 tyX10_ok nmX10 hown hK hP (dR hj f43 t) hS 0 rfl rfl 20 (by decide) lk132 (fun _ h9 => h9) rfl (by decide +kernel) rfl rfl (Nat.le_of_ble_eq_true rfl) dX10_readsItem_107 (fun H locs hP _ hS => ?_)
      have hP := sR_0_20 ef44 hP
      refine lv_goto (tgt := 236) hx hb dX10_readsItem_110 (by decide) ?_
      obtain rfl := Option.some.inj hf
      exact kr H locs ls 236 dX10_readsItem_236 hP hS
  · have hf := itT hf c1
    refine lv_aload_n hx hb dX10_readsItem_4 rfl (lv_at hl 0 rfl) ?_
    refine lv_iconst (v := 2) hx hb dX10_readsItem_5 (by decide) ?_
    refine lv_bipush (v := 6) hx hb dX10_readsItem_6 (by decide) ?_
    obtain ⟨y45, f46, hq47, hf⟩ := bi2_out hf
    refine cw_vi (As := [.int 2, .int 6]) (rest := []) ⟨hx, hb, hml, hown, hts⟩ xR_S hK hX0 hS hP (c_X10_number hj l N 2 6 f t y45 f46 hq47) (cwV 2 hts gX10_readsItem_X10_number rfl rfl rfl (by decide +kernel) ⟨Nat.le_trans (Nat.le_of_ble_eq_true rfl) hR.1, Nat.le_trans (Nat.le_of_ble_eq_true rfl) hR.2⟩) (va_recv hK hP (ci := 10) (q0 := 0) rfl rfl) rfl hl.1 rfl (Nat.le_of_ble_eq_true rfl) ⟨Nat.zero_le _, Nat.zero_le _⟩ dX10_readsItem_8 (fun H locs hP hS => ?_)
    refine lv_istore_n (lv' := [(2, .int y45), (0, .ref (ad 0)), (1, .int x1)]) hx hb dX10_readsItem_11 rfl hl (by decide) rfl (fun ls hl => ?_)
    refine lv_aload_n hx hb dX10_readsItem_12 rfl (lv_at hl 1 rfl) ?_
    refine lv_aload_n hx hb dX10_readsItem_13 rfl (lv_at hl 1 rfl) ?_
    obtain ⟨y48, hq49, hf⟩ := bi_out hf
    refine cw_vi (As := []) (rest := [.ref (ad 0)]) ⟨hx, hb, hml, hown, hts⟩ xR_S hK hX0 hS hP (c_X10_isWell hj l f46 t y48 hq49) (cwV 0 hts gX10_readsItem_X10_isWell rfl rfl rfl (by decide +kernel) ⟨Nat.le_trans (Nat.le_of_ble_eq_true rfl) hR.1, Nat.le_trans (Nat.le_of_ble_eq_true rfl) hR.2⟩) (va_recv hK hP (ci := 10) (q0 := 0) rfl rfl) rfl hl.1 rfl (Nat.le_of_ble_eq_true rfl) ⟨Nat.zero_le _, Nat.zero_le _⟩ dX10_readsItem_14 (fun H locs hP hS => ?_)
    obtain ⟨k51, ek51, hf⟩ := sq_out hf
    have hk51 : ∀ (v50 : Int32), k51 v50 = some fR → ∀ (H : Heap) (locs : List Loc) (ls : Array Slot), va_P D vwCl (wR ad cy f46 t) H → va_S (aR ad) s.heap H locs → lv_has ls 4 [] → W p l e R s m args below meth c H locs 0 0 Q (F0 m 28 ls [.int v50, .ref (ad 0)]) := by
      intro v50 hf H locs ls hP hS hl
      have hf := sk1 ek51 v50 hf
      obtain ⟨f52, ef52, hf⟩ := sq_out hf
      refine va_put (D := D) (ci := 10) (v := .int v50) (ty := .int) (C := RX10) (T := TX10) (N := 34) hx hb hts hiX10 tyX10 tyX10_ok nmX10 hown hK hP (dR hj f46 t) hS 0 rfl rfl 19 (by decide) lk125 (fun _ h9 => h9) rfl (by decide +kernel) rfl rfl (Nat.le_of_ble_eq_true rfl) dX10_readsItem_28 (fun H locs hP _ hS => ?_)
      have hP := sR_0_19 ef52 hP
      refine lv_goto (tgt := 236) hx hb dX10_readsItem_31 (by decide) ?_
      obtain rfl := Option.some.inj hf
      exact kr H locs ls 236 dX10_readsItem_236 hP hS
    refine lv_if_eq (tgt := 24) hx hb dX10_readsItem_17 (by decide) (fun c17 => ?_) (fun c17 => ?_)
    · have hf := itT hf c17
      refine lv_aload_n hx hb dX10_readsItem_24 rfl (lv_at hl 1 rfl) ?_
      refine va_get (D := D) (ci := 10) (v := .int (f46 0 19)) (C := RX10) (T := TX10) (N := 34) hx hb hts hiX10 hown hK hP 0 rfl rfl 19 (by decide) lk125 (fun _ h9 => h9) rfl dX10_readsItem_25 ?_
      exact hk51 _ hf H locs ls hP hS (lv_sub hl [] rfl)
    · have hf := itF hf c17
      refine lv_iload_n hx hb dX10_readsItem_20 rfl (lv_at hl 0 rfl) ?_
      refine lv_goto (tgt := 28) hx hb dX10_readsItem_21 (by decide) ?_
      exact hk51 y45 hf H locs ls hP hS (lv_sub hl [] rfl)
set_option maxHeartbeats 4000000 in
set_option maxRecDepth 100000 in
theorem c_X10_readsItem (hj : jR ad) (l : Launch) (N : Nat) (x1 : Int32) (f : mM) (t : Int64) (fR : mM) (hf : q_X10_readsItem N x1 f = some fR) : Met l yX10_readsItem wsX10_readsItem ({ frames := 6, cells := 0, slots := 0, locals := 136 }) (va_Pc ([.ref (ad 0), .int x1]) (pre D cy (wR ad cy) (xR) f t)) (va_Qv (fun (u : mM × Int64) => u = (fR, t)) (atW D (wR ad cy)) (aR ad)) 0 0 (aR ad) := by
  refine Met.ofW (cc := cX10_readsItem) (maxL := 4) (ret := none) (by decide) rfl ?_
  intro p e s m args below meth c s₁ B hml hv
  obtain ⟨rfl, hP, hK, hX0⟩ := hv
  have hl := lv_entry ([.ref (ad 0), .int x1]) (n := 4) (Nat.le_of_ble_eq_true rfl)
  rw [lg_entry_eq]
  generalize (lg_sl ([.ref (ad 0), .int x1]) ++ List.replicate (4 - (lg_sl ([.ref (ad 0), .int x1])).length) Slot.unset).toArray = ls at hl ⊢
  have hlocks := B.notSynchronized
  exact b_X10_readsItem ⟨B.exec, B.bytes, B.returns, hml, findClass_of_methodNamed B.named, atoms_spec (ws := wsX10_readsItem) B.pre, hlocks, hK, hX0⟩ hj ⟨Nat.le_refl _, Nat.le_refl _⟩ N x1 f t fR hf (fun H locs ls pc hd hP hS => W.vret B.exec B.bytes B.returns (fun t2 ht hW => ⟨⟨(fR, t), rfl, rfl, by show va_P D vwCl _ t2.heap; rw [ht]; exact hP⟩, hS.F ht⟩) hS.2.2 hd) s.heap [] ls hP va_S.rf hl
def lp_X10_marsh_41 (N : Nat)  : Nat → Int32 → mM → Option (Int32 × mM)
  | 0, _, _ => none
  | n + 1, x1, f => bi (q_X10_isWell f) (fun y10 => if y10 = 0 then some (x1, f) else if (f 0 5) = 0 then some (x1, f) else sq (fun (v12 : Int32) => sq (fun (v14 : Int32) => bi2 (q_X10_takes N v14 f) (fun y16 f17 => bi (q_X10_isWell f17) (fun y19 => sq (fun (f21 : mM) => sq (fun (v23 : Int32) => bi2 (q_X10_takes N v23 f21) (fun y25 f26 => sq (x1 + 1) (fun x1_28 => lp_X10_marsh_41 N n x1_28 f26))) (fun k24 => if (f21 0 5) = 3 then k24 1 else k24 0)) (fun k22 => if y19 = 0 then k22 f17 else bi (q_X10_readsItem N y16 f17) (fun f29 => k22 f29))))) (fun k15 => sq (fun (_ : Unit) => k15 0) (fun k31 => if (f 0 5) = 1 then if v12 = 0 then k31 () else k15 1 else k31 ()))) (fun k13 => if (f 0 7) = 0 then if x1 = 0 then k13 1 else k13 0 else if (f 0 7) = 1 then if 9 ≤ (f 0 20) then k13 0 else k13 1 else if (f 0 7) = 2 then if 4 ≤ (f 0 21) then k13 0 else k13 1 else if 3 ≤ (f 0 22) then k13 0 else k13 1))
theorem lp_X10_marsh_41_s (N : Nat)  (n : Nat) (x1 : Int32) (f : mM) : lp_X10_marsh_41 N (n + 1) x1 f = (bi (q_X10_isWell f) (fun y10 => if y10 = 0 then some (x1, f) else if (f 0 5) = 0 then some (x1, f) else sq (fun (v12 : Int32) => sq (fun (v14 : Int32) => bi2 (q_X10_takes N v14 f) (fun y16 f17 => bi (q_X10_isWell f17) (fun y19 => sq (fun (f21 : mM) => sq (fun (v23 : Int32) => bi2 (q_X10_takes N v23 f21) (fun y25 f26 => sq (x1 + 1) (fun x1_28 => lp_X10_marsh_41 N n x1_28 f26))) (fun k24 => if (f21 0 5) = 3 then k24 1 else k24 0)) (fun k22 => if y19 = 0 then k22 f17 else bi (q_X10_readsItem N y16 f17) (fun f29 => k22 f29))))) (fun k15 => sq (fun (_ : Unit) => k15 0) (fun k31 => if (f 0 5) = 1 then if v12 = 0 then k31 () else k15 1 else k31 ()))) (fun k13 => if (f 0 7) = 0 then if x1 = 0 then k13 1 else k13 0 else if (f 0 7) = 1 then if 9 ≤ (f 0 20) then k13 0 else k13 1 else if (f 0 7) = 2 then if 4 ≤ (f 0 21) then k13 0 else k13 1 else if 3 ≤ (f 0 22) then k13 0 else k13 1))) := rfl
set_option maxHeartbeats 4000000 in
set_option maxRecDepth 100000 in
theorem lp_X10_marsh_41_w (C0 : cX p s m args meth c cX10_marsh 4 (some .int) RX10 wsX10_marsh D cy (xR)) (hj : jR ad) (hR : 7 ≤ R.frames ∧ 159 ≤ R.locals) (N : Nat)  (t : Int64) (r1 : Int32) (fR : mM) (kx195 : ∀ (H : Heap) (locs : List Loc) (ls : Array Slot), va_P D vwCl (wR ad cy fR t) H → va_S (aR ad) s.heap H locs → lv_has ls 4 [(0, .ref (ad 0)), (1, .int r1)] → W p l e R s m args below meth c H locs 0 0 Q (F0 m 195 ls [])) : ∀ (n : Nat) (x1 : Int32) (f : mM), lp_X10_marsh_41 N n x1 f = some (r1, fR) → ∀ (H : Heap) (locs : List Loc) (ls : Array Slot), va_P D vwCl (wR ad cy f t) H → va_S (aR ad) s.heap H locs → lv_has ls 4 [(0, .ref (ad 0)), (1, .int x1)] → W p l e R s m args below meth c H locs 0 0 Q (F0 m 41 ls []) := by
  obtain ⟨hx, hb, hr, hml, hown, hts, hlocks, hK, hX0⟩ := id C0
  have lk101 := hts (.fieldLink RX10 101 "PlankNineModel" "token" "I") (List.mem_of_getElem? (i := 8) rfl)
  have hiX10 : ∀ w ∈ u_ws RX10 TX10 34, w ∈ wsX10_marsh := fun w h => List.mem_cons_of_mem _ (List.mem_append_right _ h)
  have lk108 := hts (.fieldLink RX10 108 "PlankNineModel" "value" "I") (List.mem_of_getElem? (i := 9) rfl)
  have lk141 := hts (.fieldLink RX10 141 "PlankNineModel" "draftErrands" "I") (List.mem_of_getElem? (i := 7) rfl)
  have lk138 := hts (.fieldLink RX10 138 "PlankNineModel" "draftPeople" "I") (List.mem_of_getElem? (i := 6) rfl)
  have lk132 := hts (.fieldLink RX10 132 "PlankNineModel" "draftPlanks" "I") (List.mem_of_getElem? (i := 5) rfl)
  intro n
  induction n with
  | zero =>
    intro x1 f hf
    exact no_none hf
  | succ n ih =>
    intro x1 f hf H locs ls hP hS hl
    have hf := (lp_X10_marsh_41_s N n x1 f).symm.trans hf
    refine lv_aload_n hx hb dX10_marsh_41 rfl (lv_at hl 0 rfl) ?_
    obtain ⟨y10, hq11, hf⟩ := bi_out hf
    refine cw_vi (As := []) (rest := []) ⟨hx, hb, hml, hown, hts⟩ xR_S hK hX0 hS hP (c_X10_isWell hj l f t y10 hq11) (cwV 0 hts gX10_marsh_X10_isWell rfl rfl rfl (by decide +kernel) ⟨Nat.le_trans (Nat.le_of_ble_eq_true rfl) hR.1, Nat.le_trans (Nat.le_of_ble_eq_true rfl) hR.2⟩) (va_recv hK hP (ci := 10) (q0 := 0) rfl rfl) rfl hl.1 rfl (Nat.le_of_ble_eq_true rfl) ⟨Nat.zero_le _, Nat.zero_le _⟩ dX10_marsh_42 (fun H locs hP hS => ?_)
    refine lv_if_eq (tgt := 195) hx hb dX10_marsh_45 (by decide) (fun c45 => ?_) (fun c45 => ?_)
    · have hf := itT hf c45
      have hg_0 := Option.some.inj hf
      obtain ⟨rfl, rfl⟩ := Prod.mk.inj hg_0
      exact kx195 H locs ls hP hS (lv_sub hl [0, 1] rfl)
    · have hf := itF hf c45
      refine lv_aload_n hx hb dX10_marsh_48 rfl (lv_at hl 0 rfl) ?_
      refine va_get (D := D) (ci := 10) (v := .int (f 0 5)) (C := RX10) (T := TX10) (N := 34) hx hb hts hiX10 hown hK hP 0 rfl rfl 5 (by decide) lk101 (fun _ h9 => h9) rfl dX10_marsh_49 ?_
      refine lv_if_eq (tgt := 195) hx hb dX10_marsh_52 (by decide) (fun c52 => ?_) (fun c52 => ?_)
      · have hf := itT hf c52
        have hg_0 := Option.some.inj hf
        obtain ⟨rfl, rfl⟩ := Prod.mk.inj hg_0
        exact kx195 H locs ls hP hS (lv_sub hl [0, 1] rfl)
      · have hf := itF hf c52
        refine lv_aload_n hx hb dX10_marsh_55 rfl (lv_at hl 0 rfl) ?_
        refine va_get (D := D) (ci := 10) (v := .int (f 0 7)) (C := RX10) (T := TX10) (N := 34) hx hb hts hiX10 hown hK hP 0 rfl rfl 7 (by decide) lk108 (fun _ h9 => h9) rfl dX10_marsh_56 ?_
        obtain ⟨k13, ek13, hf⟩ := sq_out hf
        have hk13 : ∀ (v12 : Int32), k13 v12 = some (r1, fR) → ∀ (H : Heap) (locs : List Loc) (ls : Array Slot), va_P D vwCl (wR ad cy f t) H → va_S (aR ad) s.heap H locs → lv_has ls 4 [(0, .ref (ad 0)), (1, .int x1)] → W p l e R s m args below meth c H locs 0 0 Q (F0 m 136 ls [.int v12]) := by
          intro v12 hf H locs ls hP hS hl
          have hf := sk1 ek13 v12 hf
          refine lv_istore_n (lv' := [(2, .int v12), (0, .ref (ad 0)), (1, .int x1)]) hx hb dX10_marsh_136 rfl hl (by decide) rfl (fun ls hl => ?_)
          refine lv_aload_n hx hb dX10_marsh_137 rfl (lv_at hl 1 rfl) ?_
          refine lv_aload_n hx hb dX10_marsh_138 rfl (lv_at hl 1 rfl) ?_
          refine va_get (D := D) (ci := 10) (v := .int (f 0 5)) (C := RX10) (T := TX10) (N := 34) hx hb hts hiX10 hown hK hP 0 rfl rfl 5 (by decide) lk101 (fun _ h9 => h9) rfl dX10_marsh_139 ?_
          refine lv_iconst (v := 1) hx hb dX10_marsh_142 (by decide) ?_
          obtain ⟨k15, ek15, hf⟩ := sq_out hf
          have hk15 : ∀ (v14 : Int32), k15 v14 = some (r1, fR) → ∀ (H : Heap) (locs : List Loc) (ls : Array Slot), va_P D vwCl (wR ad cy f t) H → va_S (aR ad) s.heap H locs → lv_has ls 4 [(0, .ref (ad 0)), (1, .int x1)] → W p l e R s m args below meth c H locs 0 0 Q (F0 m 155 ls [.int v14, .ref (ad 0)]) := by
            intro v14 hf H locs ls hP hS hl
            have hf := sk1 ek15 v14 hf
            obtain ⟨y16, f17, hq18, hf⟩ := bi2_out hf
            refine cw_vi (As := [.int v14]) (rest := []) ⟨hx, hb, hml, hown, hts⟩ xR_S hK hX0 hS hP (c_X10_takes hj l N v14 f t y16 f17 hq18) (cwV 1 hts gX10_marsh_X10_takes rfl rfl rfl (by decide +kernel) ⟨Nat.le_trans (Nat.le_of_ble_eq_true rfl) hR.1, Nat.le_trans (Nat.le_of_ble_eq_true rfl) hR.2⟩) (va_recv hK hP (ci := 10) (q0 := 0) rfl rfl) rfl hl.1 rfl (Nat.le_of_ble_eq_true rfl) ⟨Nat.zero_le _, Nat.zero_le _⟩ dX10_marsh_155 (fun H locs hP hS => ?_)
            refine lv_istore_n (lv' := [(3, .int y16), (0, .ref (ad 0)), (1, .int x1)]) hx hb dX10_marsh_158 rfl hl (by decide) rfl (fun ls hl => ?_)
            refine lv_aload_n hx hb dX10_marsh_159 rfl (lv_at hl 1 rfl) ?_
            obtain ⟨y19, hq20, hf⟩ := bi_out hf
            refine cw_vi (As := []) (rest := []) ⟨hx, hb, hml, hown, hts⟩ xR_S hK hX0 hS hP (c_X10_isWell hj l f17 t y19 hq20) (cwV 0 hts gX10_marsh_X10_isWell rfl rfl rfl (by decide +kernel) ⟨Nat.le_trans (Nat.le_of_ble_eq_true rfl) hR.1, Nat.le_trans (Nat.le_of_ble_eq_true rfl) hR.2⟩) (va_recv hK hP (ci := 10) (q0 := 0) rfl rfl) rfl hl.1 rfl (Nat.le_of_ble_eq_true rfl) ⟨Nat.zero_le _, Nat.zero_le _⟩ dX10_marsh_160 (fun H locs hP hS => ?_)
            obtain ⟨k22, ek22, hf⟩ := sq_out hf
            have hk22 : ∀ (f21 : mM), k22 f21 = some (r1, fR) → ∀ (H : Heap) (locs : List Loc) (ls : Array Slot), va_P D vwCl (wR ad cy f21 t) H → va_S (aR ad) s.heap H locs → lv_has ls 4 [(0, .ref (ad 0)), (1, .int x1)] → W p l e R s m args below meth c H locs 0 0 Q (F0 m 171 ls []) := by
              intro f21 hf H locs ls hP hS hl
              have hf := sk1 ek22 f21 hf
              refine lv_aload_n hx hb dX10_marsh_171 rfl (lv_at hl 0 rfl) ?_
              refine lv_aload_n hx hb dX10_marsh_172 rfl (lv_at hl 0 rfl) ?_
              refine va_get (D := D) (ci := 10) (v := .int (f21 0 5)) (C := RX10) (T := TX10) (N := 34) hx hb hts hiX10 hown hK hP 0 rfl rfl 5 (by decide) lk101 (fun _ h9 => h9) rfl dX10_marsh_173 ?_
              refine lv_iconst (v := 3) hx hb dX10_marsh_176 (by decide) ?_
              obtain ⟨k24, ek24, hf⟩ := sq_out hf
              have hk24 : ∀ (v23 : Int32), k24 v23 = some (r1, fR) → ∀ (H : Heap) (locs : List Loc) (ls : Array Slot), va_P D vwCl (wR ad cy f21 t) H → va_S (aR ad) s.heap H locs → lv_has ls 4 [(0, .ref (ad 0)), (1, .int x1)] → W p l e R s m args below meth c H locs 0 0 Q (F0 m 185 ls [.int v23, .ref (ad 0)]) := by
                intro v23 hf H locs ls hP hS hl
                have hf := sk1 ek24 v23 hf
                obtain ⟨y25, f26, hq27, hf⟩ := bi2_out hf
                refine cw_vi (As := [.int v23]) (rest := []) ⟨hx, hb, hml, hown, hts⟩ xR_S hK hX0 hS hP (c_X10_takes hj l N v23 f21 t y25 f26 hq27) (cwV 1 hts gX10_marsh_X10_takes rfl rfl rfl (by decide +kernel) ⟨Nat.le_trans (Nat.le_of_ble_eq_true rfl) hR.1, Nat.le_trans (Nat.le_of_ble_eq_true rfl) hR.2⟩) (va_recv hK hP (ci := 10) (q0 := 0) rfl rfl) rfl hl.1 rfl (Nat.le_of_ble_eq_true rfl) ⟨Nat.zero_le _, Nat.zero_le _⟩ dX10_marsh_185 (fun H locs hP hS => ?_)
                refine lv_pop hx hb dX10_marsh_188 rfl ?_
                obtain ⟨x1_28, ex1_28, hf⟩ := sq_out hf
                refine lv_iinc (v := x1_28) (lv' := [(1, .int x1_28), (0, .ref (ad 0))]) hx hb dX10_marsh_189 hl (k := 1) rfl (by rw [ex1_28]; rfl) (by decide) rfl (fun ls hl => ?_)
                refine lv_goto (tgt := 41) hx hb dX10_marsh_192 (by decide) ?_
                exact ih x1_28 f26 hf H locs ls hP hS (lv_sub hl [1, 0] rfl)
              refine lv_icmp_ne (tgt := 184) hx hb dX10_marsh_177 (by decide) (fun c177 => ?_) (fun c177 => ?_)
              · have hf := itF hf c177
                refine lv_iconst (v := 0) hx hb dX10_marsh_184 (by decide) ?_
                exact hk24 0 hf H locs ls hP hS (lv_sub hl [0, 1] rfl)
              · have hf := itT hf c177
                refine lv_iconst (v := 1) hx hb dX10_marsh_180 (by decide) ?_
                refine lv_goto (tgt := 185) hx hb dX10_marsh_181 (by decide) ?_
                exact hk24 1 hf H locs ls hP hS (lv_sub hl [0, 1] rfl)
            refine lv_if_eq (tgt := 171) hx hb dX10_marsh_163 (by decide) (fun c163 => ?_) (fun c163 => ?_)
            · have hf := itT hf c163
              exact hk22 f17 hf H locs ls hP hS (lv_sub hl [1, 2] rfl)
            · have hf := itF hf c163
              refine lv_aload_n hx hb dX10_marsh_166 rfl (lv_at hl 1 rfl) ?_
              refine lv_iload_n hx hb dX10_marsh_167 rfl (lv_at hl 0 rfl) ?_
              obtain ⟨f29, hq30, hf⟩ := bi_out hf
              refine cw_vv (As := [.int y16]) (rest := []) ⟨hx, hb, hml, hown, hts⟩ xR_S hK hX0 hS hP (c_X10_readsItem hj l N y16 f17 t f29 hq30) (cwV 1 hts gX10_marsh_X10_readsItem rfl rfl rfl (by decide +kernel) ⟨Nat.le_trans (Nat.le_of_ble_eq_true rfl) hR.1, Nat.le_trans (Nat.le_of_ble_eq_true rfl) hR.2⟩) (va_recv hK hP (ci := 10) (q0 := 0) rfl rfl) rfl hl.1 rfl (Nat.le_of_ble_eq_true rfl) ⟨Nat.zero_le _, Nat.zero_le _⟩ dX10_marsh_168 (fun H locs hP hS => ?_)
              exact hk22 f29 hf H locs ls hP hS (lv_sub hl [1, 2] rfl)
          obtain ⟨k31, ek31, hf⟩ := sq_out hf
          have hk31 : k31 () = some (r1, fR) → ∀ (H : Heap) (locs : List Loc) (ls : Array Slot), va_P D vwCl (wR ad cy f t) H → va_S (aR ad) s.heap H locs → lv_has ls 4 [(0, .ref (ad 0)), (1, .int x1)] → W p l e R s m args below meth c H locs 0 0 Q (F0 m 154 ls [.ref (ad 0)]) := by
            intro hf H locs ls hP hS hl
            have hf := sk1 ek31 () hf
            refine lv_iconst (v := 0) hx hb dX10_marsh_154 (by decide) ?_
            exact hk15 0 hf H locs ls hP hS (lv_sub hl [0, 1] rfl)
          refine lv_icmp_ne (tgt := 154) hx hb dX10_marsh_143 (by decide) (fun c143 => ?_) (fun c143 => ?_)
          · have hf := itF hf c143
            exact hk31 hf H locs ls hP hS (lv_sub hl [1, 2] rfl)
          · have hf := itT hf c143
            refine lv_iload_n hx hb dX10_marsh_146 rfl (lv_at hl 0 rfl) ?_
            refine lv_if_eq (tgt := 154) hx hb dX10_marsh_147 (by decide) (fun c147 => ?_) (fun c147 => ?_)
            · have hf := itT hf c147
              exact hk31 hf H locs ls hP hS (lv_sub hl [1, 2] rfl)
            · have hf := itF hf c147
              refine lv_iconst (v := 1) hx hb dX10_marsh_150 (by decide) ?_
              refine lv_goto (tgt := 155) hx hb dX10_marsh_151 (by decide) ?_
              exact hk15 1 hf H locs ls hP hS (lv_sub hl [1, 2] rfl)
        refine lv_if_ne (tgt := 74) hx hb dX10_marsh_59 (by decide) (fun c59 => ?_) (fun c59 => ?_)
        · have hf := itF hf c59
          refine lv_aload_n hx hb dX10_marsh_74 rfl (lv_at hl 0 rfl) ?_
          refine va_get (D := D) (ci := 10) (v := .int (f 0 7)) (C := RX10) (T := TX10) (N := 34) hx hb hts hiX10 hown hK hP 0 rfl rfl 7 (by decide) lk108 (fun _ h9 => h9) rfl dX10_marsh_75 ?_
          refine lv_iconst (v := 1) hx hb dX10_marsh_78 (by decide) ?_
          refine lv_icmp_ne (tgt := 99) hx hb dX10_marsh_79 (by decide) (fun c79 => ?_) (fun c79 => ?_)
          · have hf := itF hf c79
            refine lv_aload_n hx hb dX10_marsh_99 rfl (lv_at hl 0 rfl) ?_
            refine va_get (D := D) (ci := 10) (v := .int (f 0 7)) (C := RX10) (T := TX10) (N := 34) hx hb hts hiX10 hown hK hP 0 rfl rfl 7 (by decide) lk108 (fun _ h9 => h9) rfl dX10_marsh_100 ?_
            refine lv_iconst (v := 2) hx hb dX10_marsh_103 (by decide) ?_
            refine lv_icmp_ne (tgt := 123) hx hb dX10_marsh_104 (by decide) (fun c104 => ?_) (fun c104 => ?_)
            · have hf := itF hf c104
              refine lv_aload_n hx hb dX10_marsh_123 rfl (lv_at hl 0 rfl) ?_
              refine va_get (D := D) (ci := 10) (v := .int (f 0 22)) (C := RX10) (T := TX10) (N := 34) hx hb hts hiX10 hown hK hP 0 rfl rfl 22 (by decide) lk141 (fun _ h9 => h9) rfl dX10_marsh_124 ?_
              refine lv_iconst (v := 3) hx hb dX10_marsh_127 (by decide) ?_
              refine lv_icmp_ge (tgt := 135) hx hb dX10_marsh_128 (by decide) (fun c128 => ?_) (fun c128 => ?_)
              · have hf := itT hf c128
                refine lv_iconst (v := 0) hx hb dX10_marsh_135 (by decide) ?_
                exact hk13 0 hf H locs ls hP hS (lv_sub hl [0, 1] rfl)
              · have hf := itF hf c128
                refine lv_iconst (v := 1) hx hb dX10_marsh_131 (by decide) ?_
                refine lv_goto (tgt := 136) hx hb dX10_marsh_132 (by decide) ?_
                exact hk13 1 hf H locs ls hP hS (lv_sub hl [0, 1] rfl)
            · have hf := itT hf c104
              refine lv_aload_n hx hb dX10_marsh_107 rfl (lv_at hl 0 rfl) ?_
              refine va_get (D := D) (ci := 10) (v := .int (f 0 21)) (C := RX10) (T := TX10) (N := 34) hx hb hts hiX10 hown hK hP 0 rfl rfl 21 (by decide) lk138 (fun _ h9 => h9) rfl dX10_marsh_108 ?_
              refine lv_iconst (v := 4) hx hb dX10_marsh_111 (by decide) ?_
              refine lv_icmp_ge (tgt := 119) hx hb dX10_marsh_112 (by decide) (fun c112 => ?_) (fun c112 => ?_)
              · have hf := itT hf c112
                refine lv_iconst (v := 0) hx hb dX10_marsh_119 (by decide) ?_
                refine lv_goto (tgt := 136) hx hb dX10_marsh_120 (by decide) ?_
                exact hk13 0 hf H locs ls hP hS (lv_sub hl [0, 1] rfl)
              · have hf := itF hf c112
                refine lv_iconst (v := 1) hx hb dX10_marsh_115 (by decide) ?_
                refine lv_goto (tgt := 136) hx hb dX10_marsh_116 (by decide) ?_
                exact hk13 1 hf H locs ls hP hS (lv_sub hl [0, 1] rfl)
          · have hf := itT hf c79
            refine lv_aload_n hx hb dX10_marsh_82 rfl (lv_at hl 0 rfl) ?_
            refine va_get (D := D) (ci := 10) (v := .int (f 0 20)) (C := RX10) (T := TX10) (N := 34) hx hb hts hiX10 hown hK hP 0 rfl rfl 20 (by decide) lk132 (fun _ h9 => h9) rfl dX10_marsh_83 ?_
            refine lv_bipush (v := 9) hx hb dX10_marsh_86 (by decide) ?_
            refine lv_icmp_ge (tgt := 95) hx hb dX10_marsh_88 (by decide) (fun c88 => ?_) (fun c88 => ?_)
            · have hf := itT hf c88
              refine lv_iconst (v := 0) hx hb dX10_marsh_95 (by decide) ?_
              refine lv_goto (tgt := 136) hx hb dX10_marsh_96 (by decide) ?_
              exact hk13 0 hf H locs ls hP hS (lv_sub hl [0, 1] rfl)
            · have hf := itF hf c88
              refine lv_iconst (v := 1) hx hb dX10_marsh_91 (by decide) ?_
              refine lv_goto (tgt := 136) hx hb dX10_marsh_92 (by decide) ?_
              exact hk13 1 hf H locs ls hP hS (lv_sub hl [0, 1] rfl)
        · have hf := itT hf c59
          refine lv_iload_n hx hb dX10_marsh_62 rfl (lv_at hl 1 rfl) ?_
          refine lv_if_ne (tgt := 70) hx hb dX10_marsh_63 (by decide) (fun c63 => ?_) (fun c63 => ?_)
          · have hf := itF hf c63
            refine lv_iconst (v := 0) hx hb dX10_marsh_70 (by decide) ?_
            refine lv_goto (tgt := 136) hx hb dX10_marsh_71 (by decide) ?_
            exact hk13 0 hf H locs ls hP hS (lv_sub hl [0, 1] rfl)
          · have hf := itT hf c63
            refine lv_iconst (v := 1) hx hb dX10_marsh_66 (by decide) ?_
            refine lv_goto (tgt := 136) hx hb dX10_marsh_67 (by decide) ?_
            exact hk13 1 hf H locs ls hP hS (lv_sub hl [0, 1] rfl)
def lp_X10_marsh_244 (N : Nat) (x1 : Int32) : Nat → Int32 → mM → Option (mM)
  | 0, _, _ => none
  | n + 1, x2, f => if 9 ≤ x2 then some f else gi (9 + x2) 18 (gi x2 18 (sq (st2 f 2 (Int32.toNatClampNeg x2) (f 2 (Int32.toNatClampNeg (9 + x2)))) (fun f43 => gi (9 + x2) 18 (gi x2 18 (sq (st2 f43 3 (Int32.toNatClampNeg x2) (f43 3 (Int32.toNatClampNeg (9 + x2)))) (fun f46 => gi (9 + x2) 18 (gi x2 18 (sq (st2 f46 4 (Int32.toNatClampNeg x2) (f46 4 (Int32.toNatClampNeg (9 + x2)))) (fun f49 => gi (9 + x2) 18 (gi x2 18 (sq (st2 f49 7 (Int32.toNatClampNeg x2) (f49 7 (Int32.toNatClampNeg (9 + x2)))) (fun f52 => sq (fun (v53 : Int32) => gi x2 50 (sq (st2 f52 8 (Int32.toNatClampNeg x2) v53) (fun f56 => sq (x2 + 1) (fun x2_57 => lp_X10_marsh_244 N x1 n x2_57 f56)))) (fun k54 => if (f52 0 16) ≤ x2 then k54 0 else gi x2 18 (k54 (f52 4 (Int32.toNatClampNeg x2))))))))))))))))
theorem lp_X10_marsh_244_s (N : Nat) (x1 : Int32) (n : Nat) (x2 : Int32) (f : mM) : lp_X10_marsh_244 N x1 (n + 1) x2 f = (if 9 ≤ x2 then some f else gi (9 + x2) 18 (gi x2 18 (sq (st2 f 2 (Int32.toNatClampNeg x2) (f 2 (Int32.toNatClampNeg (9 + x2)))) (fun f43 => gi (9 + x2) 18 (gi x2 18 (sq (st2 f43 3 (Int32.toNatClampNeg x2) (f43 3 (Int32.toNatClampNeg (9 + x2)))) (fun f46 => gi (9 + x2) 18 (gi x2 18 (sq (st2 f46 4 (Int32.toNatClampNeg x2) (f46 4 (Int32.toNatClampNeg (9 + x2)))) (fun f49 => gi (9 + x2) 18 (gi x2 18 (sq (st2 f49 7 (Int32.toNatClampNeg x2) (f49 7 (Int32.toNatClampNeg (9 + x2)))) (fun f52 => sq (fun (v53 : Int32) => gi x2 50 (sq (st2 f52 8 (Int32.toNatClampNeg x2) v53) (fun f56 => sq (x2 + 1) (fun x2_57 => lp_X10_marsh_244 N x1 n x2_57 f56)))) (fun k54 => if (f52 0 16) ≤ x2 then k54 0 else gi x2 18 (k54 (f52 4 (Int32.toNatClampNeg x2))))))))))))))))) := rfl
set_option maxHeartbeats 4000000 in
set_option maxRecDepth 100000 in
theorem lp_X10_marsh_244_w (C0 : cX p s m args meth c cX10_marsh 4 (some .int) RX10 wsX10_marsh D cy (xR)) (hj : jR ad) (hR : 7 ≤ R.frames ∧ 159 ≤ R.locals) (N : Nat) (x1 : Int32) (t : Int64) (fR : mM) (kx340 : ∀ (H : Heap) (locs : List Loc) (ls : Array Slot), va_P D vwCl (wR ad cy fR t) H → va_S (aR ad) s.heap H locs → lv_has ls 4 [(0, .ref (ad 0)), (1, .int x1)] → W p l e R s m args below meth c H locs 0 0 Q (F0 m 340 ls [])) : ∀ (n : Nat) (x2 : Int32) (f : mM), lp_X10_marsh_244 N x1 n x2 f = some fR → ∀ (H : Heap) (locs : List Loc) (ls : Array Slot), va_P D vwCl (wR ad cy f t) H → va_S (aR ad) s.heap H locs → lv_has ls 4 [(0, .ref (ad 0)), (1, .int x1), (2, .int x2)] → W p l e R s m args below meth c H locs 0 0 Q (F0 m 244 ls []) := by
  obtain ⟨hx, hb, hr, hml, hown, hts, hlocks, hK, hX0⟩ := id C0
  have lk13 := hts (.fieldLink RX10 13 "PlankNineModel" "one" "[I") (List.mem_of_getElem? (i := 14) rfl)
  have hiX10 : ∀ w ∈ u_ws RX10 TX10 34, w ∈ wsX10_marsh := fun w h => List.mem_cons_of_mem _ (List.mem_append_right _ h)
  have lk16 := hts (.fieldLink RX10 16 "PlankNineModel" "other" "[I") (List.mem_of_getElem? (i := 15) rfl)
  have lk19 := hts (.fieldLink RX10 19 "PlankNineModel" "bears" "[I") (List.mem_of_getElem? (i := 16) rfl)
  have lk28 := hts (.fieldLink RX10 28 "PlankNineModel" "errands" "[I") (List.mem_of_getElem? (i := 17) rfl)
  have lk31 := hts (.fieldLink RX10 31 "PlankNineModel" "s" "[I") (List.mem_of_getElem? (i := 18) rfl)
  have lk148 := hts (.fieldLink RX10 148 "PlankNineModel" "planks" "I") (List.mem_of_getElem? (i := 11) rfl)
  intro n
  induction n with
  | zero =>
    intro x2 f hf
    exact no_none hf
  | succ n ih =>
    intro x2 f hf H locs ls hP hS hl
    have hf := (lp_X10_marsh_244_s N x1 n x2 f).symm.trans hf
    refine lv_iload_n hx hb dX10_marsh_244 rfl (lv_at hl 2 rfl) ?_
    refine lv_bipush (v := 9) hx hb dX10_marsh_245 (by decide) ?_
    refine lv_icmp_ge (tgt := 340) hx hb dX10_marsh_247 (by decide) (fun c247 => ?_) (fun c247 => ?_)
    · have hf := itT hf c247
      obtain rfl := Option.some.inj hf
      exact kx340 H locs ls hP hS (lv_sub hl [0, 1] rfl)
    · have hf := itF hf c247
      refine lv_aload_n hx hb dX10_marsh_250 rfl (lv_at hl 0 rfl) ?_
      refine va_get (D := D) (ci := 10) (v := .ref (ad 2)) (C := RX10) (T := TX10) (N := 34) hx hb hts hiX10 hown hK hP 0 rfl rfl 9 (by decide) lk13 (fun _ h9 => h9) rfl dX10_marsh_251 ?_
      refine lv_iload_n hx hb dX10_marsh_254 rfl (lv_at hl 2 rfl) ?_
      refine lv_aload_n hx hb dX10_marsh_255 rfl (lv_at hl 0 rfl) ?_
      refine va_get (D := D) (ci := 10) (v := .ref (ad 2)) (C := RX10) (T := TX10) (N := 34) hx hb hts hiX10 hown hK hP 0 rfl rfl 9 (by decide) lk13 (fun _ h9 => h9) rfl dX10_marsh_256 ?_
      refine lv_bipush (v := 9) hx hb dX10_marsh_259 (by decide) ?_
      refine lv_iload_n hx hb dX10_marsh_261 rfl (lv_at hl 2 rfl) ?_
      refine lv_iadd hx hb dX10_marsh_262 ?_
      obtain ⟨hin41, hf⟩ := gi_out hf
      refine va_iald hx hb hK hP 2 1 rfl rfl hin41 dX10_marsh_263 ?_
      obtain ⟨hin42, hf⟩ := gi_out hf
      obtain ⟨f43, ef43, hf⟩ := sq_out hf
      refine va_iast hx hb hK hP (dR hj f t) hS 2 1 rfl rfl hin42 dX10_marsh_264 (fun H locs hP _ hS => ?_)
      have hP := sR_2 ef43 hP
      refine lv_aload_n hx hb dX10_marsh_265 rfl (lv_at hl 0 rfl) ?_
      refine va_get (D := D) (ci := 10) (v := .ref (ad 3)) (C := RX10) (T := TX10) (N := 34) hx hb hts hiX10 hown hK hP 0 rfl rfl 10 (by decide) lk16 (fun _ h9 => h9) rfl dX10_marsh_266 ?_
      refine lv_iload_n hx hb dX10_marsh_269 rfl (lv_at hl 2 rfl) ?_
      refine lv_aload_n hx hb dX10_marsh_270 rfl (lv_at hl 0 rfl) ?_
      refine va_get (D := D) (ci := 10) (v := .ref (ad 3)) (C := RX10) (T := TX10) (N := 34) hx hb hts hiX10 hown hK hP 0 rfl rfl 10 (by decide) lk16 (fun _ h9 => h9) rfl dX10_marsh_271 ?_
      refine lv_bipush (v := 9) hx hb dX10_marsh_274 (by decide) ?_
      refine lv_iload_n hx hb dX10_marsh_276 rfl (lv_at hl 2 rfl) ?_
      refine lv_iadd hx hb dX10_marsh_277 ?_
      obtain ⟨hin44, hf⟩ := gi_out hf
      refine va_iald hx hb hK hP 3 1 rfl rfl hin44 dX10_marsh_278 ?_
      obtain ⟨hin45, hf⟩ := gi_out hf
      obtain ⟨f46, ef46, hf⟩ := sq_out hf
      refine va_iast hx hb hK hP (dR hj f43 t) hS 3 1 rfl rfl hin45 dX10_marsh_279 (fun H locs hP _ hS => ?_)
      have hP := sR_3 ef46 hP
      refine lv_aload_n hx hb dX10_marsh_280 rfl (lv_at hl 0 rfl) ?_
      refine va_get (D := D) (ci := 10) (v := .ref (ad 4)) (C := RX10) (T := TX10) (N := 34) hx hb hts hiX10 hown hK hP 0 rfl rfl 11 (by decide) lk19 (fun _ h9 => h9) rfl dX10_marsh_281 ?_
      refine lv_iload_n hx hb dX10_marsh_284 rfl (lv_at hl 2 rfl) ?_
      refine lv_aload_n hx hb dX10_marsh_285 rfl (lv_at hl 0 rfl) ?_
      refine va_get (D := D) (ci := 10) (v := .ref (ad 4)) (C := RX10) (T := TX10) (N := 34) hx hb hts hiX10 hown hK hP 0 rfl rfl 11 (by decide) lk19 (fun _ h9 => h9) rfl dX10_marsh_286 ?_
      refine lv_bipush (v := 9) hx hb dX10_marsh_289 (by decide) ?_
      refine lv_iload_n hx hb dX10_marsh_291 rfl (lv_at hl 2 rfl) ?_
      refine lv_iadd hx hb dX10_marsh_292 ?_
      obtain ⟨hin47, hf⟩ := gi_out hf
      refine va_iald hx hb hK hP 4 1 rfl rfl hin47 dX10_marsh_293 ?_
      obtain ⟨hin48, hf⟩ := gi_out hf
      obtain ⟨f49, ef49, hf⟩ := sq_out hf
      refine va_iast hx hb hK hP (dR hj f46 t) hS 4 1 rfl rfl hin48 dX10_marsh_294 (fun H locs hP _ hS => ?_)
      have hP := sR_4 ef49 hP
      refine lv_aload_n hx hb dX10_marsh_295 rfl (lv_at hl 0 rfl) ?_
      refine va_get (D := D) (ci := 10) (v := .ref (ad 7)) (C := RX10) (T := TX10) (N := 34) hx hb hts hiX10 hown hK hP 0 rfl rfl 14 (by decide) lk28 (fun _ h9 => h9) rfl dX10_marsh_296 ?_
      refine lv_iload_n hx hb dX10_marsh_299 rfl (lv_at hl 2 rfl) ?_
      refine lv_aload_n hx hb dX10_marsh_300 rfl (lv_at hl 0 rfl) ?_
      refine va_get (D := D) (ci := 10) (v := .ref (ad 7)) (C := RX10) (T := TX10) (N := 34) hx hb hts hiX10 hown hK hP 0 rfl rfl 14 (by decide) lk28 (fun _ h9 => h9) rfl dX10_marsh_301 ?_
      refine lv_bipush (v := 9) hx hb dX10_marsh_304 (by decide) ?_
      refine lv_iload_n hx hb dX10_marsh_306 rfl (lv_at hl 2 rfl) ?_
      refine lv_iadd hx hb dX10_marsh_307 ?_
      obtain ⟨hin50, hf⟩ := gi_out hf
      refine va_iald hx hb hK hP 7 1 rfl rfl hin50 dX10_marsh_308 ?_
      obtain ⟨hin51, hf⟩ := gi_out hf
      obtain ⟨f52, ef52, hf⟩ := sq_out hf
      refine va_iast hx hb hK hP (dR hj f49 t) hS 7 1 rfl rfl hin51 dX10_marsh_309 (fun H locs hP _ hS => ?_)
      have hP := sR_7 ef52 hP
      refine lv_aload_n hx hb dX10_marsh_310 rfl (lv_at hl 0 rfl) ?_
      refine va_get (D := D) (ci := 10) (v := .ref (ad 8)) (C := RX10) (T := TX10) (N := 34) hx hb hts hiX10 hown hK hP 0 rfl rfl 23 (by decide) lk31 (fun _ h9 => h9) rfl dX10_marsh_311 ?_
      refine lv_iload_n hx hb dX10_marsh_314 rfl (lv_at hl 2 rfl) ?_
      refine lv_iload_n hx hb dX10_marsh_315 rfl (lv_at hl 2 rfl) ?_
      refine lv_aload_n hx hb dX10_marsh_316 rfl (lv_at hl 0 rfl) ?_
      refine va_get (D := D) (ci := 10) (v := .int (f52 0 16)) (C := RX10) (T := TX10) (N := 34) hx hb hts hiX10 hown hK hP 0 rfl rfl 16 (by decide) lk148 (fun _ h9 => h9) rfl dX10_marsh_317 ?_
      obtain ⟨k54, ek54, hf⟩ := sq_out hf
      have hk54 : ∀ (v53 : Int32), k54 v53 = some fR → ∀ (H : Heap) (locs : List Loc) (ls : Array Slot), va_P D vwCl (wR ad cy f52 t) H → va_S (aR ad) s.heap H locs → lv_has ls 4 [(0, .ref (ad 0)), (1, .int x1), (2, .int x2)] → W p l e R s m args below meth c H locs 0 0 Q (F0 m 333 ls [.int v53, .int x2, .ref (ad 8)]) := by
        intro v53 hf H locs ls hP hS hl
        have hf := sk1 ek54 v53 hf
        obtain ⟨hin55, hf⟩ := gi_out hf
        obtain ⟨f56, ef56, hf⟩ := sq_out hf
        refine va_iast hx hb hK hP (dR hj f52 t) hS 8 1 rfl rfl hin55 dX10_marsh_333 (fun H locs hP _ hS => ?_)
        have hP := sR_8 ef56 hP
        obtain ⟨x2_57, ex2_57, hf⟩ := sq_out hf
        refine lv_iinc (v := x2_57) (lv' := [(2, .int x2_57), (0, .ref (ad 0)), (1, .int x1)]) hx hb dX10_marsh_334 hl (k := 2) rfl (by rw [ex2_57]; rfl) (by decide) rfl (fun ls hl => ?_)
        refine lv_goto (tgt := 244) hx hb dX10_marsh_337 (by decide) ?_
        exact ih x2_57 f56 hf H locs ls hP hS (lv_sub hl [1, 2, 0] rfl)
      refine lv_icmp_ge (tgt := 332) hx hb dX10_marsh_320 (by decide) (fun c320 => ?_) (fun c320 => ?_)
      · have hf := itT hf c320
        refine lv_iconst (v := 0) hx hb dX10_marsh_332 (by decide) ?_
        exact hk54 0 hf H locs ls hP hS (lv_sub hl [0, 1, 2] rfl)
      · have hf := itF hf c320
        refine lv_aload_n hx hb dX10_marsh_323 rfl (lv_at hl 0 rfl) ?_
        refine va_get (D := D) (ci := 10) (v := .ref (ad 4)) (C := RX10) (T := TX10) (N := 34) hx hb hts hiX10 hown hK hP 0 rfl rfl 11 (by decide) lk19 (fun _ h9 => h9) rfl dX10_marsh_324 ?_
        refine lv_iload_n hx hb dX10_marsh_327 rfl (lv_at hl 2 rfl) ?_
        obtain ⟨hin58, hf⟩ := gi_out hf
        refine va_iald hx hb hK hP 4 1 rfl rfl hin58 dX10_marsh_328 ?_
        refine lv_goto (tgt := 333) hx hb dX10_marsh_329 (by decide) ?_
        exact hk54 _ hf H locs ls hP hS (lv_sub hl [0, 1, 2] rfl)
def lp_X10_marsh_342 (N : Nat) (x1 : Int32) : Nat → Int32 → mM → Option (mM)
  | 0, _, _ => none
  | n + 1, x2, f => if 4 ≤ x2 then some f else gi (4 + x2) 8 (gi x2 8 (sq (st2 f 5 (Int32.toNatClampNeg x2) (f 5 (Int32.toNatClampNeg (4 + x2)))) (fun f63 => gi (4 + x2) 8 (gi x2 8 (sq (st2 f63 6 (Int32.toNatClampNeg x2) (f63 6 (Int32.toNatClampNeg (4 + x2)))) (fun f66 => sq (x2 + 1) (fun x2_67 => lp_X10_marsh_342 N x1 n x2_67 f66)))))))
theorem lp_X10_marsh_342_s (N : Nat) (x1 : Int32) (n : Nat) (x2 : Int32) (f : mM) : lp_X10_marsh_342 N x1 (n + 1) x2 f = (if 4 ≤ x2 then some f else gi (4 + x2) 8 (gi x2 8 (sq (st2 f 5 (Int32.toNatClampNeg x2) (f 5 (Int32.toNatClampNeg (4 + x2)))) (fun f63 => gi (4 + x2) 8 (gi x2 8 (sq (st2 f63 6 (Int32.toNatClampNeg x2) (f63 6 (Int32.toNatClampNeg (4 + x2)))) (fun f66 => sq (x2 + 1) (fun x2_67 => lp_X10_marsh_342 N x1 n x2_67 f66)))))))) := rfl
set_option maxHeartbeats 4000000 in
set_option maxRecDepth 100000 in
theorem lp_X10_marsh_342_w (C0 : cX p s m args meth c cX10_marsh 4 (some .int) RX10 wsX10_marsh D cy (xR)) (hj : jR ad) (hR : 7 ≤ R.frames ∧ 159 ≤ R.locals) (N : Nat) (x1 : Int32) (t : Int64) (fR : mM) (kx381 : ∀ (H : Heap) (locs : List Loc) (ls : Array Slot), va_P D vwCl (wR ad cy fR t) H → va_S (aR ad) s.heap H locs → lv_has ls 4 [(0, .ref (ad 0)), (1, .int x1)] → W p l e R s m args below meth c H locs 0 0 Q (F0 m 381 ls [])) : ∀ (n : Nat) (x2 : Int32) (f : mM), lp_X10_marsh_342 N x1 n x2 f = some fR → ∀ (H : Heap) (locs : List Loc) (ls : Array Slot), va_P D vwCl (wR ad cy f t) H → va_S (aR ad) s.heap H locs → lv_has ls 4 [(0, .ref (ad 0)), (1, .int x1), (2, .int x2)] → W p l e R s m args below meth c H locs 0 0 Q (F0 m 342 ls []) := by
  obtain ⟨hx, hb, hr, hml, hown, hts, hlocks, hK, hX0⟩ := id C0
  have lk22 := hts (.fieldLink RX10 22 "PlankNineModel" "weight" "[I") (List.mem_of_getElem? (i := 19) rfl)
  have hiX10 : ∀ w ∈ u_ws RX10 TX10 34, w ∈ wsX10_marsh := fun w h => List.mem_cons_of_mem _ (List.mem_append_right _ h)
  have lk25 := hts (.fieldLink RX10 25 "PlankNineModel" "stride" "[I") (List.mem_of_getElem? (i := 20) rfl)
  intro n
  induction n with
  | zero =>
    intro x2 f hf
    exact no_none hf
  | succ n ih =>
    intro x2 f hf H locs ls hP hS hl
    have hf := (lp_X10_marsh_342_s N x1 n x2 f).symm.trans hf
    refine lv_iload_n hx hb dX10_marsh_342 rfl (lv_at hl 2 rfl) ?_
    refine lv_iconst (v := 4) hx hb dX10_marsh_343 (by decide) ?_
    refine lv_icmp_ge (tgt := 381) hx hb dX10_marsh_344 (by decide) (fun c344 => ?_) (fun c344 => ?_)
    · have hf := itT hf c344
      obtain rfl := Option.some.inj hf
      exact kx381 H locs ls hP hS (lv_sub hl [0, 1] rfl)
    · have hf := itF hf c344
      refine lv_aload_n hx hb dX10_marsh_347 rfl (lv_at hl 0 rfl) ?_
      refine va_get (D := D) (ci := 10) (v := .ref (ad 5)) (C := RX10) (T := TX10) (N := 34) hx hb hts hiX10 hown hK hP 0 rfl rfl 12 (by decide) lk22 (fun _ h9 => h9) rfl dX10_marsh_348 ?_
      refine lv_iload_n hx hb dX10_marsh_351 rfl (lv_at hl 2 rfl) ?_
      refine lv_aload_n hx hb dX10_marsh_352 rfl (lv_at hl 0 rfl) ?_
      refine va_get (D := D) (ci := 10) (v := .ref (ad 5)) (C := RX10) (T := TX10) (N := 34) hx hb hts hiX10 hown hK hP 0 rfl rfl 12 (by decide) lk22 (fun _ h9 => h9) rfl dX10_marsh_353 ?_
      refine lv_iconst (v := 4) hx hb dX10_marsh_356 (by decide) ?_
      refine lv_iload_n hx hb dX10_marsh_357 rfl (lv_at hl 2 rfl) ?_
      refine lv_iadd hx hb dX10_marsh_358 ?_
      obtain ⟨hin61, hf⟩ := gi_out hf
      refine va_iald hx hb hK hP 5 1 rfl rfl hin61 dX10_marsh_359 ?_
      obtain ⟨hin62, hf⟩ := gi_out hf
      obtain ⟨f63, ef63, hf⟩ := sq_out hf
      refine va_iast hx hb hK hP (dR hj f t) hS 5 1 rfl rfl hin62 dX10_marsh_360 (fun H locs hP _ hS => ?_)
      have hP := sR_5 ef63 hP
      refine lv_aload_n hx hb dX10_marsh_361 rfl (lv_at hl 0 rfl) ?_
      refine va_get (D := D) (ci := 10) (v := .ref (ad 6)) (C := RX10) (T := TX10) (N := 34) hx hb hts hiX10 hown hK hP 0 rfl rfl 13 (by decide) lk25 (fun _ h9 => h9) rfl dX10_marsh_362 ?_
      refine lv_iload_n hx hb dX10_marsh_365 rfl (lv_at hl 2 rfl) ?_
      refine lv_aload_n hx hb dX10_marsh_366 rfl (lv_at hl 0 rfl) ?_
      refine va_get (D := D) (ci := 10) (v := .ref (ad 6)) (C := RX10) (T := TX10) (N := 34) hx hb hts hiX10 hown hK hP 0 rfl rfl 13 (by decide) lk25 (fun _ h9 => h9) rfl dX10_marsh_367 ?_
      refine lv_iconst (v := 4) hx hb dX10_marsh_370 (by decide) ?_
      refine lv_iload_n hx hb dX10_marsh_371 rfl (lv_at hl 2 rfl) ?_
      refine lv_iadd hx hb dX10_marsh_372 ?_
      obtain ⟨hin64, hf⟩ := gi_out hf
      refine va_iald hx hb hK hP 6 1 rfl rfl hin64 dX10_marsh_373 ?_
      obtain ⟨hin65, hf⟩ := gi_out hf
      obtain ⟨f66, ef66, hf⟩ := sq_out hf
      refine va_iast hx hb hK hP (dR hj f63 t) hS 6 1 rfl rfl hin65 dX10_marsh_374 (fun H locs hP _ hS => ?_)
      have hP := sR_6 ef66 hP
      obtain ⟨x2_67, ex2_67, hf⟩ := sq_out hf
      refine lv_iinc (v := x2_67) (lv' := [(2, .int x2_67), (0, .ref (ad 0)), (1, .int x1)]) hx hb dX10_marsh_375 hl (k := 2) rfl (by rw [ex2_67]; rfl) (by decide) rfl (fun ls hl => ?_)
      refine lv_goto (tgt := 342) hx hb dX10_marsh_378 (by decide) ?_
      exact ih x2_67 f66 hf H locs ls hP hS (lv_sub hl [1, 2, 0] rfl)
def q_X10_marsh (N : Nat) (f : mM) : Option (Int32 × mM) := sq (st2 f 0 0 0) (fun f1 => sq (st2 f1 0 8 (-1)) (fun f2 => sq (st2 f2 0 4 0) (fun f3 => sq (st2 f3 0 19 4) (fun f4 => sq (st2 f4 0 20 0) (fun f5 => sq (st2 f5 0 21 0) (fun f6 => sq (st2 f6 0 22 0) (fun f7 => bi (q_X10_advances N f7) (fun f8 => bi2 (lp_X10_marsh_41 N N 0 f8) (fun y32 f33 => bi (q_X10_isWell f33) (fun y35 => if y35 = 0 then some (((-10) - (f33 0 8)), f33) else sq (st2 f33 0 15 (f33 0 19)) (fun f37 => sq (st2 f37 0 16 (f37 0 20)) (fun f38 => sq (st2 f38 0 17 (f38 0 21)) (fun f39 => sq (st2 f39 0 18 (f39 0 22)) (fun f40 => bi (lp_X10_marsh_244 N y32 N 0 f40) (fun f59 => bi (lp_X10_marsh_342 N y32 N 0 f59) (fun f68 => gi 9 50 (sq (st2 f68 8 (Int32.toNatClampNeg 9) 0) (fun f71 => sq (st2 f71 0 3 0) (fun f72 => gi 0 2 (sq (st2 f72 10 (Int32.toNatClampNeg 0) (vp_nar .boolean 0)) (fun f74 => gi 1 2 (sq (st2 f74 10 (Int32.toNatClampNeg 1) (vp_nar .boolean 0)) (fun f76 => some (y32, f76))))))))))))))))))))))))
set_option maxHeartbeats 4000000 in
set_option maxRecDepth 100000 in
theorem b_X10_marsh (C0 : cX p s m args meth c cX10_marsh 4 (some .int) RX10 wsX10_marsh D cy (xR)) (hj : jR ad) (hR : 7 ≤ R.frames ∧ 159 ≤ R.locals) (N : Nat)  (f : mM) (t : Int64) (r : Int32) (fR : mM) (hf : q_X10_marsh N f = some (r, fR)) (kr : ∀ (H : Heap) (locs : List Loc) (ls : Array Slot) (pc : Nat), decode cX10_marsh pc = .ok (.ireturn, 1) → va_P D vwCl (wR ad cy fR t) H → va_S (aR ad) s.heap H locs → W p l e R s m args below meth c H locs 0 0 Q (F0 m pc ls [.int r])) (H : Heap) (locs : List Loc) (ls : Array Slot) (hP : va_P D vwCl (wR ad cy f t) H) (hS : va_S (aR ad) s.heap H locs) (hl : lv_has ls 4 [(0, .ref (ad 0))]) : W p l e R s m args below meth c H locs 0 0 Q (F0 m 0 ls []) := by
  obtain ⟨hx, hb, hr, hml, hown, hts, hlocks, hK, hX0⟩ := id C0
  have lk69 := hts (.fieldLink RX10 69 "PlankNineModel" "thrown" "I") (List.mem_of_getElem? (i := 1) rfl)
  have hiX10 : ∀ w ∈ u_ws RX10 TX10 34, w ∈ wsX10_marsh := fun w h => List.mem_cons_of_mem _ (List.mem_append_right _ h)
  have lk111 := hts (.fieldLink RX10 111 "PlankNineModel" "fault" "I") (List.mem_of_getElem? (i := 2) rfl)
  have lk91 := hts (.fieldLink RX10 91 "PlankNineModel" "next" "I") (List.mem_of_getElem? (i := 3) rfl)
  have lk125 := hts (.fieldLink RX10 125 "PlankNineModel" "draftPlaces" "I") (List.mem_of_getElem? (i := 4) rfl)
  have lk132 := hts (.fieldLink RX10 132 "PlankNineModel" "draftPlanks" "I") (List.mem_of_getElem? (i := 5) rfl)
  have lk138 := hts (.fieldLink RX10 138 "PlankNineModel" "draftPeople" "I") (List.mem_of_getElem? (i := 6) rfl)
  have lk141 := hts (.fieldLink RX10 141 "PlankNineModel" "draftErrands" "I") (List.mem_of_getElem? (i := 7) rfl)
  have lk65 := hts (.fieldLink RX10 65 "PlankNineModel" "places" "I") (List.mem_of_getElem? (i := 10) rfl)
  have lk148 := hts (.fieldLink RX10 148 "PlankNineModel" "planks" "I") (List.mem_of_getElem? (i := 11) rfl)
  have lk151 := hts (.fieldLink RX10 151 "PlankNineModel" "people" "I") (List.mem_of_getElem? (i := 12) rfl)
  have lk154 := hts (.fieldLink RX10 154 "PlankNineModel" "errandMany" "I") (List.mem_of_getElem? (i := 13) rfl)
  have lk31 := hts (.fieldLink RX10 31 "PlankNineModel" "s" "[I") (List.mem_of_getElem? (i := 18) rfl)
  have lk76 := hts (.fieldLink RX10 76 "PlankNineModel" "typed" "I") (List.mem_of_getElem? (i := 21) rfl)
  have lk37 := hts (.fieldLink RX10 37 "PlankNineModel" "isKept" "[Z") (List.mem_of_getElem? (i := 22) rfl)
  unfold q_X10_marsh at hf
  refine lv_aload_n hx hb dX10_marsh_0 rfl (lv_at hl 0 rfl) ?_
  refine lv_iconst (v := 0) hx hb dX10_marsh_1 (by decide) ?_
  obtain ⟨f1, ef1, hf⟩ := sq_out hf
  refine va_put (D := D) (ci := 10) (v := .int 0) (ty := .int) (C := RX10) (T := TX10) (N := 34) hx hb hts hiX10 tyX10 tyX10_ok nmX10 hown hK hP (dR hj f t) hS 0 rfl rfl 0 (by decide) lk69 (fun _ h9 => h9) rfl (by decide +kernel) rfl rfl (Nat.le_of_ble_eq_true rfl) dX10_marsh_2 (fun H locs hP _ hS => ?_)
  have hP := sR_0_0 ef1 hP
  refine lv_aload_n hx hb dX10_marsh_5 rfl (lv_at hl 0 rfl) ?_
  refine lv_iconst (v := (-1)) hx hb dX10_marsh_6 (by decide) ?_
  obtain ⟨f2, ef2, hf⟩ := sq_out hf
  refine va_put (D := D) (ci := 10) (v := .int (-1)) (ty := .int) (C := RX10) (T := TX10) (N := 34) hx hb hts hiX10 tyX10 tyX10_ok nmX10 hown hK hP (dR hj f1 t) hS 0 rfl rfl 8 (by decide) lk111 (fun _ h9 => h9) rfl (by decide +kernel) rfl rfl (Nat.le_of_ble_eq_true rfl) dX10_marsh_7 (fun H locs hP _ hS => ?_)
  have hP := sR_0_8 ef2 hP
  refine lv_aload_n hx hb dX10_marsh_10 rfl (lv_at hl 0 rfl) ?_
  refine lv_iconst (v := 0) hx hb dX10_marsh_11 (by decide) ?_
  obtain ⟨f3, ef3, hf⟩ := sq_out hf
  refine va_put (D := D) (ci := 10) (v := .int 0) (ty := .int) (C := RX10) (T := TX10) (N := 34) hx hb hts hiX10 tyX10 tyX10_ok nmX10 hown hK hP (dR hj f2 t) hS 0 rfl rfl 4 (by decide) lk91 (fun _ h9 => h9) rfl (by decide +kernel) rfl rfl (Nat.le_of_ble_eq_true rfl) dX10_marsh_12 (fun H locs hP _ hS => ?_)
  have hP := sR_0_4 ef3 hP
  refine lv_iconst (v := 0) hx hb dX10_marsh_15 (by decide) ?_
  refine lv_istore_n (lv' := [(1, .int 0), (0, .ref (ad 0))]) hx hb dX10_marsh_16 rfl hl (by decide) rfl (fun ls hl => ?_)
  refine lv_aload_n hx hb dX10_marsh_17 rfl (lv_at hl 1 rfl) ?_
  refine lv_iconst (v := 4) hx hb dX10_marsh_18 (by decide) ?_
  obtain ⟨f4, ef4, hf⟩ := sq_out hf
  refine va_put (D := D) (ci := 10) (v := .int 4) (ty := .int) (C := RX10) (T := TX10) (N := 34) hx hb hts hiX10 tyX10 tyX10_ok nmX10 hown hK hP (dR hj f3 t) hS 0 rfl rfl 19 (by decide) lk125 (fun _ h9 => h9) rfl (by decide +kernel) rfl rfl (Nat.le_of_ble_eq_true rfl) dX10_marsh_19 (fun H locs hP _ hS => ?_)
  have hP := sR_0_19 ef4 hP
  refine lv_aload_n hx hb dX10_marsh_22 rfl (lv_at hl 1 rfl) ?_
  refine lv_iconst (v := 0) hx hb dX10_marsh_23 (by decide) ?_
  obtain ⟨f5, ef5, hf⟩ := sq_out hf
  refine va_put (D := D) (ci := 10) (v := .int 0) (ty := .int) (C := RX10) (T := TX10) (N := 34) hx hb hts hiX10 tyX10 tyX10_ok nmX10 hown hK hP (dR hj f4 t) hS 0 rfl rfl 20 (by decide) lk132 (fun _ h9 => h9) rfl (by decide +kernel) rfl rfl (Nat.le_of_ble_eq_true rfl) dX10_marsh_24 (fun H locs hP _ hS => ?_)
  have hP := sR_0_20 ef5 hP
  refine lv_aload_n hx hb dX10_marsh_27 rfl (lv_at hl 1 rfl) ?_
  refine lv_iconst (v := 0) hx hb dX10_marsh_28 (by decide) ?_
  obtain ⟨f6, ef6, hf⟩ := sq_out hf
  refine va_put (D := D) (ci := 10) (v := .int 0) (ty := .int) (C := RX10) (T := TX10) (N := 34) hx hb hts hiX10 tyX10 tyX10_ok nmX10 hown hK hP (dR hj f5 t) hS 0 rfl rfl 21 (by decide) lk138 (fun _ h9 => h9) rfl (by decide +kernel) rfl rfl (Nat.le_of_ble_eq_true rfl) dX10_marsh_29 (fun H locs hP _ hS => ?_)
  have hP := sR_0_21 ef6 hP
  refine lv_aload_n hx hb dX10_marsh_32 rfl (lv_at hl 1 rfl) ?_
  refine lv_iconst (v := 0) hx hb dX10_marsh_33 (by decide) ?_
  obtain ⟨f7, ef7, hf⟩ := sq_out hf
  refine va_put (D := D) (ci := 10) (v := .int 0) (ty := .int) (C := RX10) (T := TX10) (N := 34) hx hb hts hiX10 tyX10 tyX10_ok nmX10 hown hK hP (dR hj f6 t) hS 0 rfl rfl 22 (by decide) lk141 (fun _ h9 => h9) rfl (by decide +kernel) rfl rfl (Nat.le_of_ble_eq_true rfl) dX10_marsh_34 (fun H locs hP _ hS => ?_)
  have hP := sR_0_22 ef7 hP
  refine lv_aload_n hx hb dX10_marsh_37 rfl (lv_at hl 1 rfl) ?_
  obtain ⟨f8, hq9, hf⟩ := bi_out hf
  refine cw_vv (As := []) (rest := []) ⟨hx, hb, hml, hown, hts⟩ xR_S hK hX0 hS hP (c_X10_advances hj l N f7 t f8 hq9) (cwV 0 hts gX10_marsh_X10_advances rfl rfl rfl (by decide +kernel) ⟨Nat.le_trans (Nat.le_of_ble_eq_true rfl) hR.1, Nat.le_trans (Nat.le_of_ble_eq_true rfl) hR.2⟩) (va_recv hK hP (ci := 10) (q0 := 0) rfl rfl) rfl hl.1 rfl (Nat.le_of_ble_eq_true rfl) ⟨Nat.zero_le _, Nat.zero_le _⟩ dX10_marsh_38 (fun H locs hP hS => ?_)
  obtain ⟨y32, f33, hlp34, hf⟩ := bi2_out hf
  refine lp_X10_marsh_41_w C0 hj hR N t y32 f33 ?_ N 0 f8 hlp34 H locs ls hP hS (lv_sub hl [1, 0] rfl)
  intro H locs ls hP hS hl
  refine lv_aload_n hx hb dX10_marsh_195 rfl (lv_at hl 0 rfl) ?_
  obtain ⟨y35, hq36, hf⟩ := bi_out hf
  refine cw_vi (As := []) (rest := []) ⟨hx, hb, hml, hown, hts⟩ xR_S hK hX0 hS hP (c_X10_isWell hj l f33 t y35 hq36) (cwV 0 hts gX10_marsh_X10_isWell rfl rfl rfl (by decide +kernel) ⟨Nat.le_trans (Nat.le_of_ble_eq_true rfl) hR.1, Nat.le_trans (Nat.le_of_ble_eq_true rfl) hR.2⟩) (va_recv hK hP (ci := 10) (q0 := 0) rfl rfl) rfl hl.1 rfl (Nat.le_of_ble_eq_true rfl) ⟨Nat.zero_le _, Nat.zero_le _⟩ dX10_marsh_196 (fun H locs hP hS => ?_)
  refine lv_if_ne (tgt := 210) hx hb dX10_marsh_199 (by decide) (fun c199 => ?_) (fun c199 => ?_)
  · have hf := itF hf c199
    refine lv_aload_n hx hb dX10_marsh_210 rfl (lv_at hl 0 rfl) ?_
    refine lv_aload_n hx hb dX10_marsh_211 rfl (lv_at hl 0 rfl) ?_
    refine va_get (D := D) (ci := 10) (v := .int (f33 0 19)) (C := RX10) (T := TX10) (N := 34) hx hb hts hiX10 hown hK hP 0 rfl rfl 19 (by decide) lk125 (fun _ h9 => h9) rfl dX10_marsh_212 ?_
    obtain ⟨f37, ef37, hf⟩ := sq_out hf
    refine va_put (D := D) (ci := 10) (v := .int (f33 0 19)) (ty := .int) (C := RX10) (T := TX10) (N := 34) hx hb hts hiX10 tyX10 tyX10_ok nmX10 hown hK hP (dR hj f33 t) hS 0 rfl rfl 15 (by decide) lk65 (fun _ h9 => h9) rfl (by decide +kernel) rfl rfl (Nat.le_of_ble_eq_true rfl) dX10_marsh_215 (fun H locs hP _ hS => ?_)
    have hP := sR_0_15 ef37 hP
    refine lv_aload_n hx hb dX10_marsh_218 rfl (lv_at hl 0 rfl) ?_
    refine lv_aload_n hx hb dX10_marsh_219 rfl (lv_at hl 0 rfl) ?_
    refine va_get (D := D) (ci := 10) (v := .int (f37 0 20)) (C := RX10) (T := TX10) (N := 34) hx hb hts hiX10 hown hK hP 0 rfl rfl 20 (by decide) lk132 (fun _ h9 => h9) rfl dX10_marsh_220 ?_
    obtain ⟨f38, ef38, hf⟩ := sq_out hf
    refine va_put (D := D) (ci := 10) (v := .int (f37 0 20)) (ty := .int) (C := RX10) (T := TX10) (N := 34) hx hb hts hiX10 tyX10 tyX10_ok nmX10 hown hK hP (dR hj f37 t) hS 0 rfl rfl 16 (by decide) lk148 (fun _ h9 => h9) rfl (by decide +kernel) rfl rfl (Nat.le_of_ble_eq_true rfl) dX10_marsh_223 (fun H locs hP _ hS => ?_)
    have hP := sR_0_16 ef38 hP
    refine lv_aload_n hx hb dX10_marsh_226 rfl (lv_at hl 0 rfl) ?_
    refine lv_aload_n hx hb dX10_marsh_227 rfl (lv_at hl 0 rfl) ?_
    refine va_get (D := D) (ci := 10) (v := .int (f38 0 21)) (C := RX10) (T := TX10) (N := 34) hx hb hts hiX10 hown hK hP 0 rfl rfl 21 (by decide) lk138 (fun _ h9 => h9) rfl dX10_marsh_228 ?_
    obtain ⟨f39, ef39, hf⟩ := sq_out hf
    refine va_put (D := D) (ci := 10) (v := .int (f38 0 21)) (ty := .int) (C := RX10) (T := TX10) (N := 34) hx hb hts hiX10 tyX10 tyX10_ok nmX10 hown hK hP (dR hj f38 t) hS 0 rfl rfl 17 (by decide) lk151 (fun _ h9 => h9) rfl (by decide +kernel) rfl rfl (Nat.le_of_ble_eq_true rfl) dX10_marsh_231 (fun H locs hP _ hS => ?_)
    have hP := sR_0_17 ef39 hP
    refine lv_aload_n hx hb dX10_marsh_234 rfl (lv_at hl 0 rfl) ?_
    refine lv_aload_n hx hb dX10_marsh_235 rfl (lv_at hl 0 rfl) ?_
    refine va_get (D := D) (ci := 10) (v := .int (f39 0 22)) (C := RX10) (T := TX10) (N := 34) hx hb hts hiX10 hown hK hP 0 rfl rfl 22 (by decide) lk141 (fun _ h9 => h9) rfl dX10_marsh_236 ?_
    obtain ⟨f40, ef40, hf⟩ := sq_out hf
    refine va_put (D := D) (ci := 10) (v := .int (f39 0 22)) (ty := .int) (C := RX10) (T := TX10) (N := 34) hx hb hts hiX10 tyX10 tyX10_ok nmX10 hown hK hP (dR hj f39 t) hS 0 rfl rfl 18 (by decide) lk154 (fun _ h9 => h9) rfl (by decide +kernel) rfl rfl (Nat.le_of_ble_eq_true rfl) dX10_marsh_239 (fun H locs hP _ hS => ?_)
    have hP := sR_0_18 ef40 hP
    refine lv_iconst (v := 0) hx hb dX10_marsh_242 (by decide) ?_
    refine lv_istore_n (lv' := [(2, .int 0), (0, .ref (ad 0)), (1, .int y32)]) hx hb dX10_marsh_243 rfl hl (by decide) rfl (fun ls hl => ?_)
    obtain ⟨f59, hlp60, hf⟩ := bi_out hf
    refine lp_X10_marsh_244_w C0 hj hR N y32 t f59 ?_ N 0 f40 hlp60 H locs ls hP hS (lv_sub hl [1, 2, 0] rfl)
    intro H locs ls hP hS hl
    refine lv_iconst (v := 0) hx hb dX10_marsh_340 (by decide) ?_
    refine lv_istore_n (lv' := [(2, .int 0), (0, .ref (ad 0)), (1, .int y32)]) hx hb dX10_marsh_341 rfl hl (by decide) rfl (fun ls hl => ?_)
    obtain ⟨f68, hlp69, hf⟩ := bi_out hf
    refine lp_X10_marsh_342_w C0 hj hR N y32 t f68 ?_ N 0 f59 hlp69 H locs ls hP hS (lv_sub hl [1, 2, 0] rfl)
    intro H locs ls hP hS hl
    refine lv_aload_n hx hb dX10_marsh_381 rfl (lv_at hl 0 rfl) ?_
    refine va_get (D := D) (ci := 10) (v := .ref (ad 8)) (C := RX10) (T := TX10) (N := 34) hx hb hts hiX10 hown hK hP 0 rfl rfl 23 (by decide) lk31 (fun _ h9 => h9) rfl dX10_marsh_382 ?_
    refine lv_bipush (v := 9) hx hb dX10_marsh_385 (by decide) ?_
    refine lv_iconst (v := 0) hx hb dX10_marsh_387 (by decide) ?_
    obtain ⟨hin70, hf⟩ := gi_out hf
    obtain ⟨f71, ef71, hf⟩ := sq_out hf
    refine va_iast hx hb hK hP (dR hj f68 t) hS 8 1 rfl rfl hin70 dX10_marsh_388 (fun H locs hP _ hS => ?_)
    have hP := sR_8 ef71 hP
    refine lv_aload_n hx hb dX10_marsh_389 rfl (lv_at hl 0 rfl) ?_
    refine lv_iconst (v := 0) hx hb dX10_marsh_390 (by decide) ?_
    obtain ⟨f72, ef72, hf⟩ := sq_out hf
    refine va_put (D := D) (ci := 10) (v := .int 0) (ty := .int) (C := RX10) (T := TX10) (N := 34) hx hb hts hiX10 tyX10 tyX10_ok nmX10 hown hK hP (dR hj f71 t) hS 0 rfl rfl 3 (by decide) lk76 (fun _ h9 => h9) rfl (by decide +kernel) rfl rfl (Nat.le_of_ble_eq_true rfl) dX10_marsh_391 (fun H locs hP _ hS => ?_)
    have hP := sR_0_3 ef72 hP
    refine lv_aload_n hx hb dX10_marsh_394 rfl (lv_at hl 0 rfl) ?_
    refine va_get (D := D) (ci := 10) (v := .ref (ad 10)) (C := RX10) (T := TX10) (N := 34) hx hb hts hiX10 hown hK hP 0 rfl rfl 25 (by decide) lk37 (fun _ h9 => h9) rfl dX10_marsh_395 ?_
    refine lv_iconst (v := 0) hx hb dX10_marsh_398 (by decide) ?_
    refine lv_iconst (v := 0) hx hb dX10_marsh_399 (by decide) ?_
    obtain ⟨hin73, hf⟩ := gi_out hf
    obtain ⟨f74, ef74, hf⟩ := sq_out hf
    refine va_zast hx hb hK hP (dR hj f72 t) hS 10 2 rfl rfl hin73 dX10_marsh_400 (fun H locs hP _ hS => ?_)
    have hP := sR_10 ef74 hP
    refine lv_aload_n hx hb dX10_marsh_401 rfl (lv_at hl 0 rfl) ?_
    refine va_get (D := D) (ci := 10) (v := .ref (ad 10)) (C := RX10) (T := TX10) (N := 34) hx hb hts hiX10 hown hK hP 0 rfl rfl 25 (by decide) lk37 (fun _ h9 => h9) rfl dX10_marsh_402 ?_
    refine lv_iconst (v := 1) hx hb dX10_marsh_405 (by decide) ?_
    refine lv_iconst (v := 0) hx hb dX10_marsh_406 (by decide) ?_
    obtain ⟨hin75, hf⟩ := gi_out hf
    obtain ⟨f76, ef76, hf⟩ := sq_out hf
    refine va_zast hx hb hK hP (dR hj f74 t) hS 10 2 rfl rfl hin75 dX10_marsh_407 (fun H locs hP _ hS => ?_)
    have hP := sR_10 ef76 hP
    refine lv_iload_n hx hb dX10_marsh_408 rfl (lv_at hl 1 rfl) ?_
    obtain ⟨rfl, rfl⟩ := Prod.mk.inj (Option.some.inj hf)
    exact kr H locs ls 409 dX10_marsh_409 hP hS
  · have hf := itT hf c199
    refine lv_bipush (v := (-10)) hx hb dX10_marsh_202 (by decide) ?_
    refine lv_aload_n hx hb dX10_marsh_204 rfl (lv_at hl 0 rfl) ?_
    refine va_get (D := D) (ci := 10) (v := .int (f33 0 8)) (C := RX10) (T := TX10) (N := 34) hx hb hts hiX10 hown hK hP 0 rfl rfl 8 (by decide) lk111 (fun _ h9 => h9) rfl dX10_marsh_205 ?_
    refine lv_isub hx hb dX10_marsh_208 ?_
    obtain ⟨rfl, rfl⟩ := Prod.mk.inj (Option.some.inj hf)
    exact kr H locs ls 209 dX10_marsh_209 hP hS
set_option maxHeartbeats 4000000 in
set_option maxRecDepth 100000 in
theorem c_X10_marsh (hj : jR ad) (l : Launch) (N : Nat)  (f : mM) (t : Int64) (r : Int32) (fR : mM) (hf : q_X10_marsh N f = some (r, fR)) : Met l yX10_marsh wsX10_marsh ({ frames := 7, cells := 0, slots := 0, locals := 159 }) (va_Pc ([.ref (ad 0)]) (pre D cy (wR ad cy) (xR) f t)) (va_Qi (fun (r2 : Int32) (u : mM × Int64) => r2 = r ∧ u = (fR, t)) (atW D (wR ad cy)) (aR ad)) 0 0 (aR ad) := by
  refine Met.ofW (cc := cX10_marsh) (maxL := 4) (ret := (some .int)) (by decide) rfl ?_
  intro p e s m args below meth c s₁ B hml hv
  obtain ⟨rfl, hP, hK, hX0⟩ := hv
  have hl := lv_entry ([.ref (ad 0)]) (n := 4) (Nat.le_of_ble_eq_true rfl)
  rw [lg_entry_eq]
  generalize (lg_sl ([.ref (ad 0)]) ++ List.replicate (4 - (lg_sl ([.ref (ad 0)])).length) Slot.unset).toArray = ls at hl ⊢
  have hlocks := B.notSynchronized
  exact b_X10_marsh ⟨B.exec, B.bytes, B.returns, hml, findClass_of_methodNamed B.named, atoms_spec (ws := wsX10_marsh) B.pre, hlocks, hK, hX0⟩ hj ⟨Nat.le_refl _, Nat.le_refl _⟩ N  f t r fR hf (fun H locs ls pc hd hP hS => W.iret B.exec B.bytes B.returns (fun t2 ht hW => ⟨⟨r, (fR, t), rfl, ⟨rfl, rfl⟩, by show va_P D vwCl _ t2.heap; rw [ht]; exact hP⟩, hS.F ht⟩) hS.2.2 hd) s.heap [] ls hP va_S.rf hl
