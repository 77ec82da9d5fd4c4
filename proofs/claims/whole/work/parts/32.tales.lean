variable {p : Program} {l : Launch} {e : Env} {R : Room} {s : State} {m : MethodId} {args : Array Value} {below : List Frame} {meth : Method} {c : Code} {Q : State → Prop} {D : va_G} {cy : Nat → ClassId} {ad sk sv : Nat → Nat}
def lp_X6_countWays_9 (N : Nat)  : Nat → Int32 → mM → Option (mM)
  | 0, _, _ => none
  | n + 1, x1, f => if 9 < x1 then some f else gi x1 10 (sq (st2 f 42 (Int32.toNatClampNeg x1) 0) (fun f4 => sq (x1 + 1) (fun x1_5 => lp_X6_countWays_9 N n x1_5 f4)))
theorem lp_X6_countWays_9_s (N : Nat)  (n : Nat) (x1 : Int32) (f : mM) : lp_X6_countWays_9 N (n + 1) x1 f = (if 9 < x1 then some f else gi x1 10 (sq (st2 f 42 (Int32.toNatClampNeg x1) 0) (fun f4 => sq (x1 + 1) (fun x1_5 => lp_X6_countWays_9 N n x1_5 f4)))) := rfl
set_option maxHeartbeats 4000000 in
set_option maxRecDepth 100000 in
theorem lp_X6_countWays_9_w (C0 : cX p s m args meth c cX6_countWays 4 none RX6 wsX6_countWays D cy (xP ad sk sv)) (hj : jP ad) (hR : 0 ≤ R.frames ∧ 0 ≤ R.locals) (N : Nat)  (t : Int64) (fR : mM) (kx28 : ∀ (H : Heap) (locs : List Loc) (ls : Array Slot), va_P D vwCl (wP ad cy fR t) H → va_S (aP ad) s.heap H locs → lv_has ls 4 [(0, .ref (ad 41))] → W p l e R s m args below meth c H locs 0 0 Q (F0 m 28 ls [])) : ∀ (n : Nat) (x1 : Int32) (f : mM), lp_X6_countWays_9 N n x1 f = some fR → ∀ (H : Heap) (locs : List Loc) (ls : Array Slot), va_P D vwCl (wP ad cy f t) H → va_S (aP ad) s.heap H locs → lv_has ls 4 [(0, .ref (ad 41)), (1, .int x1)] → W p l e R s m args below meth c H locs 0 0 Q (F0 m 9 ls []) := by
  obtain ⟨hx, hb, hr, hml, hown, hts, hlocks, hK, hX0⟩ := id C0
  have lk9 := hts (.fieldLink RX6 9 "PlankNine$Tales" "waysFor" "[I") (List.mem_of_getElem? (i := 1) rfl)
  have hiX6 : ∀ w ∈ u_ws RX6 TX6 3, w ∈ wsX6_countWays := fun w h => List.mem_cons_of_mem _ (List.mem_append_left _ (List.mem_append_right _ h))
  intro n
  induction n with
  | zero =>
    intro x1 f hf
    exact no_none hf
  | succ n ih =>
    intro x1 f hf H locs ls hP hS hl
    have hf := (lp_X6_countWays_9_s N n x1 f).symm.trans hf
    refine lv_iload_n hx hb dX6_countWays_9 rfl (lv_at hl 1 rfl) ?_
    refine lv_bipush (v := 9) hx hb dX6_countWays_10 (by decide) ?_
    refine lv_icmp_gt (tgt := 28) hx hb dX6_countWays_12 (by decide) (fun c12 => ?_) (fun c12 => ?_)
    · have hf := itT hf c12
      obtain rfl := Option.some.inj hf
      exact kx28 H locs ls hP hS (lv_sub hl [0] rfl)
    · have hf := itF hf c12
      refine lv_aload_n hx hb dX6_countWays_15 rfl (lv_at hl 0 rfl) ?_
      refine va_get (D := D) (ci := 6) (v := .ref (ad 42)) (C := RX6) (T := TX6) (N := 3) hx hb hts hiX6 hown hK hP 41 rfl rfl 2 (by decide) lk9 (fun _ h9 => h9) rfl dX6_countWays_16 ?_
      refine lv_iload_n hx hb dX6_countWays_19 rfl (lv_at hl 1 rfl) ?_
      refine lv_iconst (v := 0) hx hb dX6_countWays_20 (by decide) ?_
      obtain ⟨hin3, hf⟩ := gi_out hf
      obtain ⟨f4, ef4, hf⟩ := sq_out hf
      refine va_iast hx hb hK hP (dP hj f t) hS 42 1 rfl rfl hin3 dX6_countWays_21 (fun H locs hP _ hS => ?_)
      have hP := sP_42 ef4 hP
      obtain ⟨x1_5, ex1_5, hf⟩ := sq_out hf
      refine lv_iinc (v := x1_5) (lv' := [(1, .int x1_5), (0, .ref (ad 41))]) hx hb dX6_countWays_22 hl (k := 1) rfl (by rw [ex1_5]; rfl) (by decide) rfl (fun ls hl => ?_)
      refine lv_goto (tgt := 9) hx hb dX6_countWays_25 (by decide) ?_
      exact ih x1_5 f4 hf H locs ls hP hS (lv_sub hl [1, 0] rfl)
def lp_X6_countWays_53 (N : Nat) (x1 : Int32) (x2 : Int32) : Nat → Int32 → mM → Option (mM)
  | 0, _, _ => none
  | n + 1, x3, f => if 9 < x3 then some f else gi x3 10 (gi (x3 - x2) 10 (gi x3 10 (sq (st2 f 42 (Int32.toNatClampNeg x3) ((f 42 (Int32.toNatClampNeg x3)) + (f 42 (Int32.toNatClampNeg (x3 - x2))))) (fun f13 => sq (x3 + 1) (fun x3_14 => lp_X6_countWays_53 N x1 x2 n x3_14 f13)))))
theorem lp_X6_countWays_53_s (N : Nat) (x1 : Int32) (x2 : Int32) (n : Nat) (x3 : Int32) (f : mM) : lp_X6_countWays_53 N x1 x2 (n + 1) x3 f = (if 9 < x3 then some f else gi x3 10 (gi (x3 - x2) 10 (gi x3 10 (sq (st2 f 42 (Int32.toNatClampNeg x3) ((f 42 (Int32.toNatClampNeg x3)) + (f 42 (Int32.toNatClampNeg (x3 - x2))))) (fun f13 => sq (x3 + 1) (fun x3_14 => lp_X6_countWays_53 N x1 x2 n x3_14 f13)))))) := rfl
set_option maxHeartbeats 4000000 in
set_option maxRecDepth 100000 in
theorem lp_X6_countWays_53_w (C0 : cX p s m args meth c cX6_countWays 4 none RX6 wsX6_countWays D cy (xP ad sk sv)) (hj : jP ad) (hR : 0 ≤ R.frames ∧ 0 ≤ R.locals) (N : Nat) (x1 : Int32) (x2 : Int32) (t : Int64) (fR : mM) (kx82 : ∀ (H : Heap) (locs : List Loc) (ls : Array Slot), va_P D vwCl (wP ad cy fR t) H → va_S (aP ad) s.heap H locs → lv_has ls 4 [(0, .ref (ad 41)), (1, .int x1)] → W p l e R s m args below meth c H locs 0 0 Q (F0 m 82 ls [])) : ∀ (n : Nat) (x3 : Int32) (f : mM), lp_X6_countWays_53 N x1 x2 n x3 f = some fR → ∀ (H : Heap) (locs : List Loc) (ls : Array Slot), va_P D vwCl (wP ad cy f t) H → va_S (aP ad) s.heap H locs → lv_has ls 4 [(0, .ref (ad 41)), (1, .int x1), (2, .int x2), (3, .int x3)] → W p l e R s m args below meth c H locs 0 0 Q (F0 m 53 ls []) := by
  obtain ⟨hx, hb, hr, hml, hown, hts, hlocks, hK, hX0⟩ := id C0
  have lk9 := hts (.fieldLink RX6 9 "PlankNine$Tales" "waysFor" "[I") (List.mem_of_getElem? (i := 1) rfl)
  have hiX6 : ∀ w ∈ u_ws RX6 TX6 3, w ∈ wsX6_countWays := fun w h => List.mem_cons_of_mem _ (List.mem_append_left _ (List.mem_append_right _ h))
  intro n
  induction n with
  | zero =>
    intro x3 f hf
    exact no_none hf
  | succ n ih =>
    intro x3 f hf H locs ls hP hS hl
    have hf := (lp_X6_countWays_53_s N x1 x2 n x3 f).symm.trans hf
    refine lv_iload_n hx hb dX6_countWays_53 rfl (lv_at hl 3 rfl) ?_
    refine lv_bipush (v := 9) hx hb dX6_countWays_54 (by decide) ?_
    refine lv_icmp_gt (tgt := 82) hx hb dX6_countWays_56 (by decide) (fun c56 => ?_) (fun c56 => ?_)
    · have hf := itT hf c56
      obtain rfl := Option.some.inj hf
      exact kx82 H locs ls hP hS (lv_sub hl [0, 1] rfl)
    · have hf := itF hf c56
      refine lv_aload_n hx hb dX6_countWays_59 rfl (lv_at hl 0 rfl) ?_
      refine va_get (D := D) (ci := 6) (v := .ref (ad 42)) (C := RX6) (T := TX6) (N := 3) hx hb hts hiX6 hown hK hP 41 rfl rfl 2 (by decide) lk9 (fun _ h9 => h9) rfl dX6_countWays_60 ?_
      refine lv_iload_n hx hb dX6_countWays_63 rfl (lv_at hl 3 rfl) ?_
      refine lv_dup2_11 hx hb dX6_countWays_64 rfl rfl ?_
      obtain ⟨hin10, hf⟩ := gi_out hf
      refine va_iald hx hb hK hP 42 1 rfl rfl hin10 dX6_countWays_65 ?_
      refine lv_aload_n hx hb dX6_countWays_66 rfl (lv_at hl 0 rfl) ?_
      refine va_get (D := D) (ci := 6) (v := .ref (ad 42)) (C := RX6) (T := TX6) (N := 3) hx hb hts hiX6 hown hK hP 41 rfl rfl 2 (by decide) lk9 (fun _ h9 => h9) rfl dX6_countWays_67 ?_
      refine lv_iload_n hx hb dX6_countWays_70 rfl (lv_at hl 3 rfl) ?_
      refine lv_iload_n hx hb dX6_countWays_71 rfl (lv_at hl 2 rfl) ?_
      refine lv_isub hx hb dX6_countWays_72 ?_
      obtain ⟨hin11, hf⟩ := gi_out hf
      refine va_iald hx hb hK hP 42 1 rfl rfl hin11 dX6_countWays_73 ?_
      refine lv_iadd hx hb dX6_countWays_74 ?_
      obtain ⟨hin12, hf⟩ := gi_out hf
      obtain ⟨f13, ef13, hf⟩ := sq_out hf
      refine va_iast hx hb hK hP (dP hj f t) hS 42 1 rfl rfl hin12 dX6_countWays_75 (fun H locs hP _ hS => ?_)
      have hP := sP_42 ef13 hP
      obtain ⟨x3_14, ex3_14, hf⟩ := sq_out hf
      refine lv_iinc (v := x3_14) (lv' := [(3, .int x3_14), (0, .ref (ad 41)), (1, .int x1), (2, .int x2)]) hx hb dX6_countWays_76 hl (k := 3) rfl (by rw [ex3_14]; rfl) (by decide) rfl (fun ls hl => ?_)
      refine lv_goto (tgt := 53) hx hb dX6_countWays_79 (by decide) ?_
      exact ih x3_14 f13 hf H locs ls hP hS (lv_sub hl [1, 2, 3, 0] rfl)
def lp_X6_countWays_30 (N : Nat)  : Nat → Int32 → mM → Option (mM)
  | 0, _, _ => none
  | n + 1, x1, f => if (f 3 2) ≤ x1 then some f else gi x1 4 (sq (f 7 (Int32.toNatClampNeg x1)) (fun x2_9 => bi (lp_X6_countWays_53 N x1 x2_9 N x2_9 f) (fun f15 => sq (x1 + 1) (fun x1_17 => lp_X6_countWays_30 N n x1_17 f15))))
theorem lp_X6_countWays_30_s (N : Nat)  (n : Nat) (x1 : Int32) (f : mM) : lp_X6_countWays_30 N (n + 1) x1 f = (if (f 3 2) ≤ x1 then some f else gi x1 4 (sq (f 7 (Int32.toNatClampNeg x1)) (fun x2_9 => bi (lp_X6_countWays_53 N x1 x2_9 N x2_9 f) (fun f15 => sq (x1 + 1) (fun x1_17 => lp_X6_countWays_30 N n x1_17 f15))))) := rfl
set_option maxHeartbeats 4000000 in
set_option maxRecDepth 100000 in
theorem lp_X6_countWays_30_w (C0 : cX p s m args meth c cX6_countWays 4 none RX6 wsX6_countWays D cy (xP ad sk sv)) (hj : jP ad) (hR : 0 ≤ R.frames ∧ 0 ≤ R.locals) (N : Nat)  (t : Int64) (fR : mM) (kx88 : ∀ (H : Heap) (locs : List Loc) (ls : Array Slot), va_P D vwCl (wP ad cy fR t) H → va_S (aP ad) s.heap H locs → lv_has ls 4 [] → W p l e R s m args below meth c H locs 0 0 Q (F0 m 88 ls [])) : ∀ (n : Nat) (x1 : Int32) (f : mM), lp_X6_countWays_30 N n x1 f = some fR → ∀ (H : Heap) (locs : List Loc) (ls : Array Slot), va_P D vwCl (wP ad cy f t) H → va_S (aP ad) s.heap H locs → lv_has ls 4 [(0, .ref (ad 41)), (1, .int x1)] → W p l e R s m args below meth c H locs 0 0 Q (F0 m 30 ls []) := by
  obtain ⟨hx, hb, hr, hml, hown, hts, hlocks, hK, hX0⟩ := id C0
  have lk15 := hts (.fieldLink RX6 15 "PlankNine$Tales" "marsh" "LPlankNine$Marsh;") (List.mem_of_getElem? (i := 2) rfl)
  have hiX6 : ∀ w ∈ u_ws RX6 TX6 3, w ∈ wsX6_countWays := fun w h => List.mem_cons_of_mem _ (List.mem_append_left _ (List.mem_append_right _ h))
  have ln47 := nlF_14 (args := args) hX0
  have hiX2 : ∀ w ∈ u_ws RX2 TX2 12, w ∈ wsX6_countWays := fun w h => List.mem_cons_of_mem _ (List.mem_append_right _ h)
  have ln50 := nlF_26 (args := args) hX0
  intro n
  induction n with
  | zero =>
    intro x1 f hf
    exact no_none hf
  | succ n ih =>
    intro x1 f hf H locs ls hP hS hl
    have hf := (lp_X6_countWays_30_s N n x1 f).symm.trans hf
    refine lv_iload_n hx hb dX6_countWays_30 rfl (lv_at hl 1 rfl) ?_
    refine lv_aload_n hx hb dX6_countWays_31 rfl (lv_at hl 0 rfl) ?_
    refine va_get (D := D) (ci := 6) (v := .ref (ad 3)) (C := RX6) (T := TX6) (N := 3) hx hb hts hiX6 hown hK hP 41 rfl rfl 0 (by decide) lk15 (fun _ h9 => h9) rfl dX6_countWays_32 ?_
    refine va_getN (D := D) (ci := 2) (v := .int (f 3 2)) (C := RX2) (T := TX2) (N := 12) hx hb hts hiX2 hown hK hP 3 rfl rfl 2 (by decide) ln47 (fun _ h9 => h9) rfl dX6_countWays_35 ?_
    refine lv_icmp_ge (tgt := 88) hx hb dX6_countWays_38 (by decide) (fun c38 => ?_) (fun c38 => ?_)
    · have hf := itT hf c38
      obtain rfl := Option.some.inj hf
      exact kx88 H locs ls hP hS (lv_sub hl [] rfl)
    · have hf := itF hf c38
      refine lv_aload_n hx hb dX6_countWays_41 rfl (lv_at hl 0 rfl) ?_
      refine va_get (D := D) (ci := 6) (v := .ref (ad 3)) (C := RX6) (T := TX6) (N := 3) hx hb hts hiX6 hown hK hP 41 rfl rfl 0 (by decide) lk15 (fun _ h9 => h9) rfl dX6_countWays_42 ?_
      refine va_getN (D := D) (ci := 2) (v := .ref (ad 7)) (C := RX2) (T := TX2) (N := 12) hx hb hts hiX2 hown hK hP 3 rfl rfl 7 (by decide) ln50 (fun _ h9 => h9) rfl dX6_countWays_45 ?_
      refine lv_iload_n hx hb dX6_countWays_48 rfl (lv_at hl 1 rfl) ?_
      obtain ⟨hin8, hf⟩ := gi_out hf
      refine va_iald hx hb hK hP 7 1 rfl rfl hin8 dX6_countWays_49 ?_
      obtain ⟨x2_9, ex2_9, hf⟩ := sq_out hf
      refine lv_nmi ex2_9 ?_
      refine lv_istore_n (lv' := [(2, .int x2_9), (0, .ref (ad 41)), (1, .int x1)]) hx hb dX6_countWays_50 rfl hl (by decide) rfl (fun ls hl => ?_)
      refine lv_iload_n hx hb dX6_countWays_51 rfl (lv_at hl 0 rfl) ?_
      refine lv_istore_n (lv' := [(3, .int x2_9), (2, .int x2_9), (0, .ref (ad 41)), (1, .int x1)]) hx hb dX6_countWays_52 rfl hl (by decide) rfl (fun ls hl => ?_)
      obtain ⟨f15, hlp16, hf⟩ := bi_out hf
      refine lp_X6_countWays_53_w C0 hj hR N x1 x2_9 t f15 ?_ N x2_9 f hlp16 H locs ls hP hS (lv_sub hl [2, 3, 1, 0] rfl)
      intro H locs ls hP hS hl
      obtain ⟨x1_17, ex1_17, hf⟩ := sq_out hf
      refine lv_iinc (v := x1_17) (lv' := [(1, .int x1_17), (0, .ref (ad 41))]) hx hb dX6_countWays_82 hl (k := 1) rfl (by rw [ex1_17]; rfl) (by decide) rfl (fun ls hl => ?_)
      refine lv_goto (tgt := 30) hx hb dX6_countWays_85 (by decide) ?_
      exact ih x1_17 f15 hf H locs ls hP hS (lv_sub hl [1, 0] rfl)
def q_X6_countWays (N : Nat) (f : mM) : Option (mM) := gi 0 10 (sq (st2 f 42 (Int32.toNatClampNeg 0) 1) (fun f2 => bi (lp_X6_countWays_9 N N 1 f2) (fun f6 => bi (lp_X6_countWays_30 N N 0 f6) (fun f18 => some f18))))
set_option maxHeartbeats 4000000 in
set_option maxRecDepth 100000 in
theorem b_X6_countWays (C0 : cX p s m args meth c cX6_countWays 4 none RX6 wsX6_countWays D cy (xP ad sk sv)) (hj : jP ad) (hR : 0 ≤ R.frames ∧ 0 ≤ R.locals) (N : Nat)  (f : mM) (t : Int64) (fR : mM) (hf : q_X6_countWays N f = some fR) (kr : ∀ (H : Heap) (locs : List Loc) (ls : Array Slot) (pc : Nat), decode cX6_countWays pc = .ok (.return_, 1) → va_P D vwCl (wP ad cy fR t) H → va_S (aP ad) s.heap H locs → W p l e R s m args below meth c H locs 0 0 Q (F0 m pc ls [])) (H : Heap) (locs : List Loc) (ls : Array Slot) (hP : va_P D vwCl (wP ad cy f t) H) (hS : va_S (aP ad) s.heap H locs) (hl : lv_has ls 4 [(0, .ref (ad 41))]) : W p l e R s m args below meth c H locs 0 0 Q (F0 m 0 ls []) := by
  obtain ⟨hx, hb, hr, hml, hown, hts, hlocks, hK, hX0⟩ := id C0
  have lk9 := hts (.fieldLink RX6 9 "PlankNine$Tales" "waysFor" "[I") (List.mem_of_getElem? (i := 1) rfl)
  have hiX6 : ∀ w ∈ u_ws RX6 TX6 3, w ∈ wsX6_countWays := fun w h => List.mem_cons_of_mem _ (List.mem_append_left _ (List.mem_append_right _ h))
  unfold q_X6_countWays at hf
  refine lv_aload_n hx hb dX6_countWays_0 rfl (lv_at hl 0 rfl) ?_
  refine va_get (D := D) (ci := 6) (v := .ref (ad 42)) (C := RX6) (T := TX6) (N := 3) hx hb hts hiX6 hown hK hP 41 rfl rfl 2 (by decide) lk9 (fun _ h9 => h9) rfl dX6_countWays_1 ?_
  refine lv_iconst (v := 0) hx hb dX6_countWays_4 (by decide) ?_
  refine lv_iconst (v := 1) hx hb dX6_countWays_5 (by decide) ?_
  obtain ⟨hin1, hf⟩ := gi_out hf
  obtain ⟨f2, ef2, hf⟩ := sq_out hf
  refine va_iast hx hb hK hP (dP hj f t) hS 42 1 rfl rfl hin1 dX6_countWays_6 (fun H locs hP _ hS => ?_)
  have hP := sP_42 ef2 hP
  refine lv_iconst (v := 1) hx hb dX6_countWays_7 (by decide) ?_
  refine lv_istore_n (lv' := [(1, .int 1), (0, .ref (ad 41))]) hx hb dX6_countWays_8 rfl hl (by decide) rfl (fun ls hl => ?_)
  obtain ⟨f6, hlp7, hf⟩ := bi_out hf
  refine lp_X6_countWays_9_w C0 hj hR N t f6 ?_ N 1 f2 hlp7 H locs ls hP hS (lv_sub hl [1, 0] rfl)
  intro H locs ls hP hS hl
  refine lv_iconst (v := 0) hx hb dX6_countWays_28 (by decide) ?_
  refine lv_istore_n (lv' := [(1, .int 0), (0, .ref (ad 41))]) hx hb dX6_countWays_29 rfl hl (by decide) rfl (fun ls hl => ?_)
  obtain ⟨f18, hlp19, hf⟩ := bi_out hf
  refine lp_X6_countWays_30_w C0 hj hR N t f18 ?_ N 0 f6 hlp19 H locs ls hP hS (lv_sub hl [1, 0] rfl)
  intro H locs ls hP hS hl
  obtain rfl := Option.some.inj hf
  exact kr H locs ls 88 dX6_countWays_88 hP hS
set_option maxHeartbeats 4000000 in
set_option maxRecDepth 100000 in
theorem c_X6_countWays (hj : jP ad) (l : Launch) (N : Nat)  (f : mM) (t : Int64) (fR : mM) (hf : q_X6_countWays N f = some fR) : Met l yX6_countWays wsX6_countWays ({ frames := 0, cells := 0, slots := 0, locals := 0 }) (va_Pc ([.ref (ad 41)]) (pre D cy (wP ad cy) (xP ad sk sv) f t)) (va_Qv (fun (u : mM × Int64) => u = (fR, t)) (atW D (wP ad cy)) (aP ad)) 0 0 (aP ad) := by
  refine Met.ofW (cc := cX6_countWays) (maxL := 4) (ret := none) (by decide) rfl ?_
  intro p e s m args below meth c s₁ B hml hv
  obtain ⟨rfl, hP, hK, hX0⟩ := hv
  have hl := lv_entry ([.ref (ad 41)]) (n := 4) (Nat.le_of_ble_eq_true rfl)
  rw [lg_entry_eq]
  generalize (lg_sl ([.ref (ad 41)]) ++ List.replicate (4 - (lg_sl ([.ref (ad 41)])).length) Slot.unset).toArray = ls at hl ⊢
  have hlocks := B.notSynchronized
  exact b_X6_countWays ⟨B.exec, B.bytes, B.returns, hml, findClass_of_methodNamed B.named, atoms_spec (ws := wsX6_countWays) B.pre, hlocks, hK, hX0⟩ hj ⟨Nat.le_refl _, Nat.le_refl _⟩ N  f t fR hf (fun H locs ls pc hd hP hS => W.vret B.exec B.bytes B.returns (fun t2 ht hW => ⟨⟨(fR, t), rfl, rfl, by show va_P D vwCl _ t2.heap; rw [ht]; exact hP⟩, hS.F ht⟩) hS.2.2 hd) s.heap [] ls hP va_S.rf hl
def q_X6_spentBy_41_28 (x2 : Int32) (f : mM) : Option (Int32) := gi x2 9 (gi x2 9 (some (if 0 < ((f 29 (Int32.toNatClampNeg x2)) - (f 24 (Int32.toNatClampNeg x2))) then ((f 29 (Int32.toNatClampNeg x2)) - (f 24 (Int32.toNatClampNeg x2))) else 0)))
set_option maxHeartbeats 4000000 in
set_option maxRecDepth 100000 in
theorem b_X6_spentBy_41_28 (C0 : cX p s m args meth c cX6_spentBy 3 (some .int) RX6 wsX6_spentBy D cy (xP ad sk sv)) (hj : jP ad) (hR : 1 ≤ R.frames ∧ 21 ≤ R.locals) (x2 : Int32) (f : mM) (t : Int64) (r : Int32) (hf : q_X6_spentBy_41_28 x2 f = some r) (kr : ∀ (H : Heap) (locs : List Loc) (ls : Array Slot) (pc : Nat), decode cX6_spentBy pc = .ok (.ireturn, 1) → va_P D vwCl (wP ad cy f t) H → va_S (aP ad) s.heap H locs → W p l e R s m args below meth c H locs 0 0 Q (F0 m pc ls [.int r])) (H : Heap) (locs : List Loc) (ls : Array Slot) (hP : va_P D vwCl (wP ad cy f t) H) (hS : va_S (aP ad) s.heap H locs) (hl : lv_has ls 3 [(0, .ref (ad 41)), (1, .ref (ad 28)), (2, .int x2)]) : W p l e R s m args below meth c H locs 0 0 Q (F0 m 0 ls []) := by
  obtain ⟨hx, hb, hr, hml, hown, hts, hlocks, hK, hX0⟩ := id C0
  have ln23 := nlF_40 (args := args) hX0
  have hiX3 : ∀ w ∈ u_ws RX3 TX3 4, w ∈ wsX6_spentBy := fun w h => List.mem_cons_of_mem _ (List.mem_append_left _ (List.mem_append_right _ h))
  have lk19 := hts (.fieldLink RX6 19 "PlankNine$Tales" "now" "LPlankNine$Now;") (List.mem_of_getElem? (i := 1) rfl)
  have hiX6 : ∀ w ∈ u_ws RX6 TX6 3, w ∈ wsX6_spentBy := fun w h => List.mem_cons_of_mem _ (List.mem_append_right _ h)
  unfold q_X6_spentBy_41_28 at hf
  refine lv_iconst (v := 0) hx hb dX6_spentBy_0 (by decide) ?_
  refine lv_aload_n hx hb dX6_spentBy_1 rfl (lv_at hl 1 rfl) ?_
  refine va_getN (D := D) (ci := 3) (v := .ref (ad 29)) (C := RX3) (T := TX3) (N := 4) hx hb hts hiX3 hown hK hP 28 rfl rfl 0 (by decide) ln23 (fun _ h9 => h9) rfl dX6_spentBy_2 ?_
  refine lv_iload_n hx hb dX6_spentBy_5 rfl (lv_at hl 2 rfl) ?_
  obtain ⟨hin1, hf⟩ := gi_out hf
  refine va_iald hx hb hK hP 29 1 rfl rfl hin1 dX6_spentBy_6 ?_
  refine lv_aload_n hx hb dX6_spentBy_7 rfl (lv_at hl 0 rfl) ?_
  refine va_get (D := D) (ci := 6) (v := .ref (ad 23)) (C := RX6) (T := TX6) (N := 3) hx hb hts hiX6 hown hK hP 41 rfl rfl 1 (by decide) lk19 (fun _ h9 => h9) rfl dX6_spentBy_8 ?_
  refine va_getN (D := D) (ci := 3) (v := .ref (ad 24)) (C := RX3) (T := TX3) (N := 4) hx hb hts hiX3 hown hK hP 23 rfl rfl 0 (by decide) ln23 (fun _ h9 => h9) rfl dX6_spentBy_11 ?_
  refine lv_iload_n hx hb dX6_spentBy_14 rfl (lv_at hl 2 rfl) ?_
  obtain ⟨hin2, hf⟩ := gi_out hf
  refine va_iald hx hb hK hP 24 1 rfl rfl hin2 dX6_spentBy_15 ?_
  refine lv_isub hx hb dX6_spentBy_16 ?_
  refine va_mmax hx hb (by rw [hml]; exact hl.1.symm) hown (hts (.methodLink RX6 28 Lib.Math.max.name) (by decide +kernel)) (hts (.static Lib.Math.max.name) (by decide +kernel)) (hts (.initialized "java/lang/Math") (by decide +kernel)) (hts (.code Lib.Math.max.name Lib.Math.max.code 2 (some .int)) (by decide +kernel)) (Nat.le_trans (by decide) hR.1) (Nat.le_trans (Nat.le_of_ble_eq_true rfl) hR.2) (Nat.zero_le _) (Nat.zero_le _) dX6_spentBy_17 ?_
  obtain rfl := Option.some.inj hf
  exact kr H locs ls 20 dX6_spentBy_20 hP hS
set_option maxHeartbeats 4000000 in
set_option maxRecDepth 100000 in
theorem c_X6_spentBy_41_28 (hj : jP ad) (l : Launch) (x2 : Int32) (f : mM) (t : Int64) (r : Int32) (hf : q_X6_spentBy_41_28 x2 f = some r) : Met l yX6_spentBy wsX6_spentBy ({ frames := 1, cells := 0, slots := 0, locals := 21 }) (va_Pc ([.ref (ad 41), .ref (ad 28), .int x2]) (pre D cy (wP ad cy) (xP ad sk sv) f t)) (va_Qi (fun (r2 : Int32) (u : mM × Int64) => r2 = r ∧ u = (f, t)) (atW D (wP ad cy)) (aP ad)) 0 0 (aP ad) := by
  refine Met.ofW (cc := cX6_spentBy) (maxL := 3) (ret := (some .int)) (by decide) rfl ?_
  intro p e s m args below meth c s₁ B hml hv
  obtain ⟨rfl, hP, hK, hX0⟩ := hv
  have hl := lv_entry ([.ref (ad 41), .ref (ad 28), .int x2]) (n := 3) (Nat.le_of_ble_eq_true rfl)
  rw [lg_entry_eq]
  generalize (lg_sl ([.ref (ad 41), .ref (ad 28), .int x2]) ++ List.replicate (3 - (lg_sl ([.ref (ad 41), .ref (ad 28), .int x2])).length) Slot.unset).toArray = ls at hl ⊢
  have hlocks := B.notSynchronized
  exact b_X6_spentBy_41_28 ⟨B.exec, B.bytes, B.returns, hml, findClass_of_methodNamed B.named, atoms_spec (ws := wsX6_spentBy) B.pre, hlocks, hK, hX0⟩ hj ⟨Nat.le_refl _, Nat.le_refl _⟩ x2 f t r hf (fun H locs ls pc hd hP hS => W.iret B.exec B.bytes B.returns (fun t2 ht hW => ⟨⟨r, (f, t), rfl, ⟨rfl, rfl⟩, by show va_P D vwCl _ t2.heap; rw [ht]; exact hP⟩, hS.F ht⟩) hS.2.2 hd) s.heap [] ls hP va_S.rf hl
def lp_X6_spentByAll_41_28_4 (N : Nat) (f : mM) : Nat → Int32 → Int32 → Option (Int32)
  | 0, _, _ => none
  | n + 1, x2, x3 => if (f 3 1) ≤ x3 then some x2 else bi (q_X6_spentBy_41_28 x3 f) (fun y1 => sq (x2 + y1) (fun x2_3 => sq (x3 + 1) (fun x3_4 => lp_X6_spentByAll_41_28_4 N f n x2_3 x3_4)))
theorem lp_X6_spentByAll_41_28_4_s (N : Nat) (f : mM) (n : Nat) (x2 : Int32) (x3 : Int32) : lp_X6_spentByAll_41_28_4 N f (n + 1) x2 x3 = (if (f 3 1) ≤ x3 then some x2 else bi (q_X6_spentBy_41_28 x3 f) (fun y1 => sq (x2 + y1) (fun x2_3 => sq (x3 + 1) (fun x3_4 => lp_X6_spentByAll_41_28_4 N f n x2_3 x3_4)))) := rfl
set_option maxHeartbeats 4000000 in
set_option maxRecDepth 100000 in
theorem lp_X6_spentByAll_41_28_4_w (C0 : cX p s m args meth c cX6_spentByAll 4 (some .int) RX6 wsX6_spentByAll D cy (xP ad sk sv)) (hj : jP ad) (hR : 2 ≤ R.frames ∧ 43 ≤ R.locals) (N : Nat)  (f : mM) (t : Int64) (r2 : Int32) (kx30 : ∀ (H : Heap) (locs : List Loc) (ls : Array Slot), va_P D vwCl (wP ad cy f t) H → va_S (aP ad) s.heap H locs → lv_has ls 4 [(2, .int r2)] → W p l e R s m args below meth c H locs 0 0 Q (F0 m 30 ls [])) : ∀ (n : Nat) (x2 : Int32) (x3 : Int32), lp_X6_spentByAll_41_28_4 N f n x2 x3 = some r2 → ∀ (H : Heap) (locs : List Loc) (ls : Array Slot), va_P D vwCl (wP ad cy f t) H → va_S (aP ad) s.heap H locs → lv_has ls 4 [(0, .ref (ad 41)), (1, .ref (ad 28)), (2, .int x2), (3, .int x3)] → W p l e R s m args below meth c H locs 0 0 Q (F0 m 4 ls []) := by
  obtain ⟨hx, hb, hr, hml, hown, hts, hlocks, hK, hX0⟩ := id C0
  have lk15 := hts (.fieldLink RX6 15 "PlankNine$Tales" "marsh" "LPlankNine$Marsh;") (List.mem_of_getElem? (i := 1) rfl)
  have hiX6 : ∀ w ∈ u_ws RX6 TX6 3, w ∈ wsX6_spentByAll := fun w h => List.mem_cons_of_mem _ (List.mem_append_left _ (List.mem_append_left _ (List.mem_append_right _ h)))
  have ln34 := nlF_7 (args := args) hX0
  have hiX2 : ∀ w ∈ u_ws RX2 TX2 12, w ∈ wsX6_spentByAll := fun w h => List.mem_cons_of_mem _ (List.mem_append_left _ (List.mem_append_right _ h))
  intro n
  induction n with
  | zero =>
    intro x2 x3 hf
    exact no_none hf
  | succ n ih =>
    intro x2 x3 hf H locs ls hP hS hl
    have hf := (lp_X6_spentByAll_41_28_4_s N f n x2 x3).symm.trans hf
    refine lv_iload_n hx hb dX6_spentByAll_4 rfl (lv_at hl 3 rfl) ?_
    refine lv_aload_n hx hb dX6_spentByAll_5 rfl (lv_at hl 0 rfl) ?_
    refine va_get (D := D) (ci := 6) (v := .ref (ad 3)) (C := RX6) (T := TX6) (N := 3) hx hb hts hiX6 hown hK hP 41 rfl rfl 0 (by decide) lk15 (fun _ h9 => h9) rfl dX6_spentByAll_6 ?_
    refine va_getN (D := D) (ci := 2) (v := .int (f 3 1)) (C := RX2) (T := TX2) (N := 12) hx hb hts hiX2 hown hK hP 3 rfl rfl 1 (by decide) ln34 (fun _ h9 => h9) rfl dX6_spentByAll_9 ?_
    refine lv_icmp_ge (tgt := 30) hx hb dX6_spentByAll_12 (by decide) (fun c12 => ?_) (fun c12 => ?_)
    · have hf := itT hf c12
      obtain rfl := Option.some.inj hf
      exact kx30 H locs ls hP hS (lv_sub hl [2] rfl)
    · have hf := itF hf c12
      refine lv_iload_n hx hb dX6_spentByAll_15 rfl (lv_at hl 2 rfl) ?_
      refine lv_aload_n hx hb dX6_spentByAll_16 rfl (lv_at hl 0 rfl) ?_
      refine lv_aload_n hx hb dX6_spentByAll_17 rfl (lv_at hl 1 rfl) ?_
      refine lv_iload_n hx hb dX6_spentByAll_18 rfl (lv_at hl 3 rfl) ?_
      obtain ⟨y1, hq2, hf⟩ := bi_out hf
      refine cw_vi (As := [.ref (ad 28), .int x3]) (rest := [.int x2]) ⟨hx, hb, hml, hown, hts⟩ xP_S hK hX0 hS hP (c_X6_spentBy_41_28 hj l x3 f t y1 hq2) (cwV 2 hts gX6_spentByAll_X6_spentBy rfl rfl rfl (by decide +kernel) ⟨Nat.le_trans (Nat.le_of_ble_eq_true rfl) hR.1, Nat.le_trans (Nat.le_of_ble_eq_true rfl) hR.2⟩) (va_recv hK hP (ci := 6) (q0 := 41) rfl rfl) rfl hl.1 rfl (Nat.le_of_ble_eq_true rfl) ⟨Nat.zero_le _, Nat.zero_le _⟩ dX6_spentByAll_19 (fun H locs hP hS => ?_)
      refine lv_iadd hx hb dX6_spentByAll_22 ?_
      obtain ⟨x2_3, ex2_3, hf⟩ := sq_out hf
      refine lv_nmi ex2_3 ?_
      refine lv_istore_n (lv' := [(2, .int x2_3), (0, .ref (ad 41)), (1, .ref (ad 28)), (3, .int x3)]) hx hb dX6_spentByAll_23 rfl hl (by decide) rfl (fun ls hl => ?_)
      obtain ⟨x3_4, ex3_4, hf⟩ := sq_out hf
      refine lv_iinc (v := x3_4) (lv' := [(3, .int x3_4), (2, .int x2_3), (0, .ref (ad 41)), (1, .ref (ad 28))]) hx hb dX6_spentByAll_24 hl (k := 3) rfl (by rw [ex3_4]; rfl) (by decide) rfl (fun ls hl => ?_)
      refine lv_goto (tgt := 4) hx hb dX6_spentByAll_27 (by decide) ?_
      exact ih x2_3 x3_4 hf H locs ls hP hS (lv_sub hl [2, 3, 1, 0] rfl)
def q_X6_spentByAll_41_28 (N : Nat) (f : mM) : Option (Int32) := bi (lp_X6_spentByAll_41_28_4 N f N 0 0) (fun y5 => some y5)
set_option maxHeartbeats 4000000 in
set_option maxRecDepth 100000 in
theorem b_X6_spentByAll_41_28 (C0 : cX p s m args meth c cX6_spentByAll 4 (some .int) RX6 wsX6_spentByAll D cy (xP ad sk sv)) (hj : jP ad) (hR : 2 ≤ R.frames ∧ 43 ≤ R.locals) (N : Nat)  (f : mM) (t : Int64) (r : Int32) (hf : q_X6_spentByAll_41_28 N f = some r) (kr : ∀ (H : Heap) (locs : List Loc) (ls : Array Slot) (pc : Nat), decode cX6_spentByAll pc = .ok (.ireturn, 1) → va_P D vwCl (wP ad cy f t) H → va_S (aP ad) s.heap H locs → W p l e R s m args below meth c H locs 0 0 Q (F0 m pc ls [.int r])) (H : Heap) (locs : List Loc) (ls : Array Slot) (hP : va_P D vwCl (wP ad cy f t) H) (hS : va_S (aP ad) s.heap H locs) (hl : lv_has ls 4 [(0, .ref (ad 41)), (1, .ref (ad 28))]) : W p l e R s m args below meth c H locs 0 0 Q (F0 m 0 ls []) := by
  obtain ⟨hx, hb, hr, hml, hown, hts, hlocks, hK, hX0⟩ := id C0
  unfold q_X6_spentByAll_41_28 at hf
  refine lv_iconst (v := 0) hx hb dX6_spentByAll_0 (by decide) ?_
  refine lv_istore_n (lv' := [(2, .int 0), (0, .ref (ad 41)), (1, .ref (ad 28))]) hx hb dX6_spentByAll_1 rfl hl (by decide) rfl (fun ls hl => ?_)
  refine lv_iconst (v := 0) hx hb dX6_spentByAll_2 (by decide) ?_
  refine lv_istore_n (lv' := [(3, .int 0), (2, .int 0), (0, .ref (ad 41)), (1, .ref (ad 28))]) hx hb dX6_spentByAll_3 rfl hl (by decide) rfl (fun ls hl => ?_)
  obtain ⟨y5, hlp6, hf⟩ := bi_out hf
  refine lp_X6_spentByAll_41_28_4_w C0 hj hR N f t y5 ?_ N 0 0 hlp6 H locs ls hP hS (lv_sub hl [2, 3, 1, 0] rfl)
  intro H locs ls hP hS hl
  refine lv_iload_n hx hb dX6_spentByAll_30 rfl (lv_at hl 0 rfl) ?_
  obtain rfl := Option.some.inj hf
  exact kr H locs ls 31 dX6_spentByAll_31 hP hS
set_option maxHeartbeats 4000000 in
set_option maxRecDepth 100000 in
theorem c_X6_spentByAll_41_28 (hj : jP ad) (l : Launch) (N : Nat)  (f : mM) (t : Int64) (r : Int32) (hf : q_X6_spentByAll_41_28 N f = some r) : Met l yX6_spentByAll wsX6_spentByAll ({ frames := 2, cells := 0, slots := 0, locals := 43 }) (va_Pc ([.ref (ad 41), .ref (ad 28)]) (pre D cy (wP ad cy) (xP ad sk sv) f t)) (va_Qi (fun (r2 : Int32) (u : mM × Int64) => r2 = r ∧ u = (f, t)) (atW D (wP ad cy)) (aP ad)) 0 0 (aP ad) := by
  refine Met.ofW (cc := cX6_spentByAll) (maxL := 4) (ret := (some .int)) (by decide) rfl ?_
  intro p e s m args below meth c s₁ B hml hv
  obtain ⟨rfl, hP, hK, hX0⟩ := hv
  have hl := lv_entry ([.ref (ad 41), .ref (ad 28)]) (n := 4) (Nat.le_of_ble_eq_true rfl)
  rw [lg_entry_eq]
  generalize (lg_sl ([.ref (ad 41), .ref (ad 28)]) ++ List.replicate (4 - (lg_sl ([.ref (ad 41), .ref (ad 28)])).length) Slot.unset).toArray = ls at hl ⊢
  have hlocks := B.notSynchronized
  exact b_X6_spentByAll_41_28 ⟨B.exec, B.bytes, B.returns, hml, findClass_of_methodNamed B.named, atoms_spec (ws := wsX6_spentByAll) B.pre, hlocks, hK, hX0⟩ hj ⟨Nat.le_refl _, Nat.le_refl _⟩ N  f t r hf (fun H locs ls pc hd hP hS => W.iret B.exec B.bytes B.returns (fun t2 ht hW => ⟨⟨r, (f, t), rfl, ⟨rfl, rfl⟩, by show va_P D vwCl _ t2.heap; rw [ht]; exact hP⟩, hS.F ht⟩) hS.2.2 hd) s.heap [] ls hP va_S.rf hl
def q_X6_spentBy_41_32 (x2 : Int32) (f : mM) : Option (Int32) := gi x2 9 (gi x2 9 (some (if 0 < ((f 33 (Int32.toNatClampNeg x2)) - (f 24 (Int32.toNatClampNeg x2))) then ((f 33 (Int32.toNatClampNeg x2)) - (f 24 (Int32.toNatClampNeg x2))) else 0)))
set_option maxHeartbeats 4000000 in
set_option maxRecDepth 100000 in
theorem b_X6_spentBy_41_32 (C0 : cX p s m args meth c cX6_spentBy 3 (some .int) RX6 wsX6_spentBy D cy (xP ad sk sv)) (hj : jP ad) (hR : 1 ≤ R.frames ∧ 21 ≤ R.locals) (x2 : Int32) (f : mM) (t : Int64) (r : Int32) (hf : q_X6_spentBy_41_32 x2 f = some r) (kr : ∀ (H : Heap) (locs : List Loc) (ls : Array Slot) (pc : Nat), decode cX6_spentBy pc = .ok (.ireturn, 1) → va_P D vwCl (wP ad cy f t) H → va_S (aP ad) s.heap H locs → W p l e R s m args below meth c H locs 0 0 Q (F0 m pc ls [.int r])) (H : Heap) (locs : List Loc) (ls : Array Slot) (hP : va_P D vwCl (wP ad cy f t) H) (hS : va_S (aP ad) s.heap H locs) (hl : lv_has ls 3 [(0, .ref (ad 41)), (1, .ref (ad 32)), (2, .int x2)]) : W p l e R s m args below meth c H locs 0 0 Q (F0 m 0 ls []) := by
  obtain ⟨hx, hb, hr, hml, hown, hts, hlocks, hK, hX0⟩ := id C0
  have ln23 := nlF_40 (args := args) hX0
  have hiX3 : ∀ w ∈ u_ws RX3 TX3 4, w ∈ wsX6_spentBy := fun w h => List.mem_cons_of_mem _ (List.mem_append_left _ (List.mem_append_right _ h))
  have lk19 := hts (.fieldLink RX6 19 "PlankNine$Tales" "now" "LPlankNine$Now;") (List.mem_of_getElem? (i := 1) rfl)
  have hiX6 : ∀ w ∈ u_ws RX6 TX6 3, w ∈ wsX6_spentBy := fun w h => List.mem_cons_of_mem _ (List.mem_append_right _ h)
  unfold q_X6_spentBy_41_32 at hf
  refine lv_iconst (v := 0) hx hb dX6_spentBy_0 (by decide) ?_
  refine lv_aload_n hx hb dX6_spentBy_1 rfl (lv_at hl 1 rfl) ?_
  refine va_getN (D := D) (ci := 3) (v := .ref (ad 33)) (C := RX3) (T := TX3) (N := 4) hx hb hts hiX3 hown hK hP 32 rfl rfl 0 (by decide) ln23 (fun _ h9 => h9) rfl dX6_spentBy_2 ?_
  refine lv_iload_n hx hb dX6_spentBy_5 rfl (lv_at hl 2 rfl) ?_
  obtain ⟨hin1, hf⟩ := gi_out hf
  refine va_iald hx hb hK hP 33 1 rfl rfl hin1 dX6_spentBy_6 ?_
  refine lv_aload_n hx hb dX6_spentBy_7 rfl (lv_at hl 0 rfl) ?_
  refine va_get (D := D) (ci := 6) (v := .ref (ad 23)) (C := RX6) (T := TX6) (N := 3) hx hb hts hiX6 hown hK hP 41 rfl rfl 1 (by decide) lk19 (fun _ h9 => h9) rfl dX6_spentBy_8 ?_
  refine va_getN (D := D) (ci := 3) (v := .ref (ad 24)) (C := RX3) (T := TX3) (N := 4) hx hb hts hiX3 hown hK hP 23 rfl rfl 0 (by decide) ln23 (fun _ h9 => h9) rfl dX6_spentBy_11 ?_
  refine lv_iload_n hx hb dX6_spentBy_14 rfl (lv_at hl 2 rfl) ?_
  obtain ⟨hin2, hf⟩ := gi_out hf
  refine va_iald hx hb hK hP 24 1 rfl rfl hin2 dX6_spentBy_15 ?_
  refine lv_isub hx hb dX6_spentBy_16 ?_
  refine va_mmax hx hb (by rw [hml]; exact hl.1.symm) hown (hts (.methodLink RX6 28 Lib.Math.max.name) (by decide +kernel)) (hts (.static Lib.Math.max.name) (by decide +kernel)) (hts (.initialized "java/lang/Math") (by decide +kernel)) (hts (.code Lib.Math.max.name Lib.Math.max.code 2 (some .int)) (by decide +kernel)) (Nat.le_trans (by decide) hR.1) (Nat.le_trans (Nat.le_of_ble_eq_true rfl) hR.2) (Nat.zero_le _) (Nat.zero_le _) dX6_spentBy_17 ?_
  obtain rfl := Option.some.inj hf
  exact kr H locs ls 20 dX6_spentBy_20 hP hS
set_option maxHeartbeats 4000000 in
set_option maxRecDepth 100000 in
theorem c_X6_spentBy_41_32 (hj : jP ad) (l : Launch) (x2 : Int32) (f : mM) (t : Int64) (r : Int32) (hf : q_X6_spentBy_41_32 x2 f = some r) : Met l yX6_spentBy wsX6_spentBy ({ frames := 1, cells := 0, slots := 0, locals := 21 }) (va_Pc ([.ref (ad 41), .ref (ad 32), .int x2]) (pre D cy (wP ad cy) (xP ad sk sv) f t)) (va_Qi (fun (r2 : Int32) (u : mM × Int64) => r2 = r ∧ u = (f, t)) (atW D (wP ad cy)) (aP ad)) 0 0 (aP ad) := by
  refine Met.ofW (cc := cX6_spentBy) (maxL := 3) (ret := (some .int)) (by decide) rfl ?_
  intro p e s m args below meth c s₁ B hml hv
  obtain ⟨rfl, hP, hK, hX0⟩ := hv
  have hl := lv_entry ([.ref (ad 41), .ref (ad 32), .int x2]) (n := 3) (Nat.le_of_ble_eq_true rfl)
  rw [lg_entry_eq]
  generalize (lg_sl ([.ref (ad 41), .ref (ad 32), .int x2]) ++ List.replicate (3 - (lg_sl ([.ref (ad 41), .ref (ad 32), .int x2])).length) Slot.unset).toArray = ls at hl ⊢
  have hlocks := B.notSynchronized
  exact b_X6_spentBy_41_32 ⟨B.exec, B.bytes, B.returns, hml, findClass_of_methodNamed B.named, atoms_spec (ws := wsX6_spentBy) B.pre, hlocks, hK, hX0⟩ hj ⟨Nat.le_refl _, Nat.le_refl _⟩ x2 f t r hf (fun H locs ls pc hd hP hS => W.iret B.exec B.bytes B.returns (fun t2 ht hW => ⟨⟨r, (f, t), rfl, ⟨rfl, rfl⟩, by show va_P D vwCl _ t2.heap; rw [ht]; exact hP⟩, hS.F ht⟩) hS.2.2 hd) s.heap [] ls hP va_S.rf hl
def lp_X6_spentByAll_41_32_4 (N : Nat) (f : mM) : Nat → Int32 → Int32 → Option (Int32)
  | 0, _, _ => none
  | n + 1, x2, x3 => if (f 3 1) ≤ x3 then some x2 else bi (q_X6_spentBy_41_32 x3 f) (fun y1 => sq (x2 + y1) (fun x2_3 => sq (x3 + 1) (fun x3_4 => lp_X6_spentByAll_41_32_4 N f n x2_3 x3_4)))
theorem lp_X6_spentByAll_41_32_4_s (N : Nat) (f : mM) (n : Nat) (x2 : Int32) (x3 : Int32) : lp_X6_spentByAll_41_32_4 N f (n + 1) x2 x3 = (if (f 3 1) ≤ x3 then some x2 else bi (q_X6_spentBy_41_32 x3 f) (fun y1 => sq (x2 + y1) (fun x2_3 => sq (x3 + 1) (fun x3_4 => lp_X6_spentByAll_41_32_4 N f n x2_3 x3_4)))) := rfl
set_option maxHeartbeats 4000000 in
set_option maxRecDepth 100000 in
theorem lp_X6_spentByAll_41_32_4_w (C0 : cX p s m args meth c cX6_spentByAll 4 (some .int) RX6 wsX6_spentByAll D cy (xP ad sk sv)) (hj : jP ad) (hR : 2 ≤ R.frames ∧ 43 ≤ R.locals) (N : Nat)  (f : mM) (t : Int64) (r2 : Int32) (kx30 : ∀ (H : Heap) (locs : List Loc) (ls : Array Slot), va_P D vwCl (wP ad cy f t) H → va_S (aP ad) s.heap H locs → lv_has ls 4 [(2, .int r2)] → W p l e R s m args below meth c H locs 0 0 Q (F0 m 30 ls [])) : ∀ (n : Nat) (x2 : Int32) (x3 : Int32), lp_X6_spentByAll_41_32_4 N f n x2 x3 = some r2 → ∀ (H : Heap) (locs : List Loc) (ls : Array Slot), va_P D vwCl (wP ad cy f t) H → va_S (aP ad) s.heap H locs → lv_has ls 4 [(0, .ref (ad 41)), (1, .ref (ad 32)), (2, .int x2), (3, .int x3)] → W p l e R s m args below meth c H locs 0 0 Q (F0 m 4 ls []) := by
  obtain ⟨hx, hb, hr, hml, hown, hts, hlocks, hK, hX0⟩ := id C0
  have lk15 := hts (.fieldLink RX6 15 "PlankNine$Tales" "marsh" "LPlankNine$Marsh;") (List.mem_of_getElem? (i := 1) rfl)
  have hiX6 : ∀ w ∈ u_ws RX6 TX6 3, w ∈ wsX6_spentByAll := fun w h => List.mem_cons_of_mem _ (List.mem_append_left _ (List.mem_append_left _ (List.mem_append_right _ h)))
  have ln34 := nlF_7 (args := args) hX0
  have hiX2 : ∀ w ∈ u_ws RX2 TX2 12, w ∈ wsX6_spentByAll := fun w h => List.mem_cons_of_mem _ (List.mem_append_left _ (List.mem_append_right _ h))
  intro n
  induction n with
  | zero =>
    intro x2 x3 hf
    exact no_none hf
  | succ n ih =>
    intro x2 x3 hf H locs ls hP hS hl
    have hf := (lp_X6_spentByAll_41_32_4_s N f n x2 x3).symm.trans hf
    refine lv_iload_n hx hb dX6_spentByAll_4 rfl (lv_at hl 3 rfl) ?_
    refine lv_aload_n hx hb dX6_spentByAll_5 rfl (lv_at hl 0 rfl) ?_
    refine va_get (D := D) (ci := 6) (v := .ref (ad 3)) (C := RX6) (T := TX6) (N := 3) hx hb hts hiX6 hown hK hP 41 rfl rfl 0 (by decide) lk15 (fun _ h9 => h9) rfl dX6_spentByAll_6 ?_
    refine va_getN (D := D) (ci := 2) (v := .int (f 3 1)) (C := RX2) (T := TX2) (N := 12) hx hb hts hiX2 hown hK hP 3 rfl rfl 1 (by decide) ln34 (fun _ h9 => h9) rfl dX6_spentByAll_9 ?_
    refine lv_icmp_ge (tgt := 30) hx hb dX6_spentByAll_12 (by decide) (fun c12 => ?_) (fun c12 => ?_)
    · have hf := itT hf c12
      obtain rfl := Option.some.inj hf
      exact kx30 H locs ls hP hS (lv_sub hl [2] rfl)
    · have hf := itF hf c12
      refine lv_iload_n hx hb dX6_spentByAll_15 rfl (lv_at hl 2 rfl) ?_
      refine lv_aload_n hx hb dX6_spentByAll_16 rfl (lv_at hl 0 rfl) ?_
      refine lv_aload_n hx hb dX6_spentByAll_17 rfl (lv_at hl 1 rfl) ?_
      refine lv_iload_n hx hb dX6_spentByAll_18 rfl (lv_at hl 3 rfl) ?_
      obtain ⟨y1, hq2, hf⟩ := bi_out hf
      refine cw_vi (As := [.ref (ad 32), .int x3]) (rest := [.int x2]) ⟨hx, hb, hml, hown, hts⟩ xP_S hK hX0 hS hP (c_X6_spentBy_41_32 hj l x3 f t y1 hq2) (cwV 2 hts gX6_spentByAll_X6_spentBy rfl rfl rfl (by decide +kernel) ⟨Nat.le_trans (Nat.le_of_ble_eq_true rfl) hR.1, Nat.le_trans (Nat.le_of_ble_eq_true rfl) hR.2⟩) (va_recv hK hP (ci := 6) (q0 := 41) rfl rfl) rfl hl.1 rfl (Nat.le_of_ble_eq_true rfl) ⟨Nat.zero_le _, Nat.zero_le _⟩ dX6_spentByAll_19 (fun H locs hP hS => ?_)
      refine lv_iadd hx hb dX6_spentByAll_22 ?_
      obtain ⟨x2_3, ex2_3, hf⟩ := sq_out hf
      refine lv_nmi ex2_3 ?_
      refine lv_istore_n (lv' := [(2, .int x2_3), (0, .ref (ad 41)), (1, .ref (ad 32)), (3, .int x3)]) hx hb dX6_spentByAll_23 rfl hl (by decide) rfl (fun ls hl => ?_)
      obtain ⟨x3_4, ex3_4, hf⟩ := sq_out hf
      refine lv_iinc (v := x3_4) (lv' := [(3, .int x3_4), (2, .int x2_3), (0, .ref (ad 41)), (1, .ref (ad 32))]) hx hb dX6_spentByAll_24 hl (k := 3) rfl (by rw [ex3_4]; rfl) (by decide) rfl (fun ls hl => ?_)
      refine lv_goto (tgt := 4) hx hb dX6_spentByAll_27 (by decide) ?_
      exact ih x2_3 x3_4 hf H locs ls hP hS (lv_sub hl [2, 3, 1, 0] rfl)
def q_X6_spentByAll_41_32 (N : Nat) (f : mM) : Option (Int32) := bi (lp_X6_spentByAll_41_32_4 N f N 0 0) (fun y5 => some y5)
set_option maxHeartbeats 4000000 in
set_option maxRecDepth 100000 in
theorem b_X6_spentByAll_41_32 (C0 : cX p s m args meth c cX6_spentByAll 4 (some .int) RX6 wsX6_spentByAll D cy (xP ad sk sv)) (hj : jP ad) (hR : 2 ≤ R.frames ∧ 43 ≤ R.locals) (N : Nat)  (f : mM) (t : Int64) (r : Int32) (hf : q_X6_spentByAll_41_32 N f = some r) (kr : ∀ (H : Heap) (locs : List Loc) (ls : Array Slot) (pc : Nat), decode cX6_spentByAll pc = .ok (.ireturn, 1) → va_P D vwCl (wP ad cy f t) H → va_S (aP ad) s.heap H locs → W p l e R s m args below meth c H locs 0 0 Q (F0 m pc ls [.int r])) (H : Heap) (locs : List Loc) (ls : Array Slot) (hP : va_P D vwCl (wP ad cy f t) H) (hS : va_S (aP ad) s.heap H locs) (hl : lv_has ls 4 [(0, .ref (ad 41)), (1, .ref (ad 32))]) : W p l e R s m args below meth c H locs 0 0 Q (F0 m 0 ls []) := by
  obtain ⟨hx, hb, hr, hml, hown, hts, hlocks, hK, hX0⟩ := id C0
  unfold q_X6_spentByAll_41_32 at hf
  refine lv_iconst (v := 0) hx hb dX6_spentByAll_0 (by decide) ?_
  refine lv_istore_n (lv' := [(2, .int 0), (0, .ref (ad 41)), (1, .ref (ad 32))]) hx hb dX6_spentByAll_1 rfl hl (by decide) rfl (fun ls hl => ?_)
  refine lv_iconst (v := 0) hx hb dX6_spentByAll_2 (by decide) ?_
  refine lv_istore_n (lv' := [(3, .int 0), (2, .int 0), (0, .ref (ad 41)), (1, .ref (ad 32))]) hx hb dX6_spentByAll_3 rfl hl (by decide) rfl (fun ls hl => ?_)
  obtain ⟨y5, hlp6, hf⟩ := bi_out hf
  refine lp_X6_spentByAll_41_32_4_w C0 hj hR N f t y5 ?_ N 0 0 hlp6 H locs ls hP hS (lv_sub hl [2, 3, 1, 0] rfl)
  intro H locs ls hP hS hl
  refine lv_iload_n hx hb dX6_spentByAll_30 rfl (lv_at hl 0 rfl) ?_
  obtain rfl := Option.some.inj hf
  exact kr H locs ls 31 dX6_spentByAll_31 hP hS
set_option maxHeartbeats 4000000 in
set_option maxRecDepth 100000 in
theorem c_X6_spentByAll_41_32 (hj : jP ad) (l : Launch) (N : Nat)  (f : mM) (t : Int64) (r : Int32) (hf : q_X6_spentByAll_41_32 N f = some r) : Met l yX6_spentByAll wsX6_spentByAll ({ frames := 2, cells := 0, slots := 0, locals := 43 }) (va_Pc ([.ref (ad 41), .ref (ad 32)]) (pre D cy (wP ad cy) (xP ad sk sv) f t)) (va_Qi (fun (r2 : Int32) (u : mM × Int64) => r2 = r ∧ u = (f, t)) (atW D (wP ad cy)) (aP ad)) 0 0 (aP ad) := by
  refine Met.ofW (cc := cX6_spentByAll) (maxL := 4) (ret := (some .int)) (by decide) rfl ?_
  intro p e s m args below meth c s₁ B hml hv
  obtain ⟨rfl, hP, hK, hX0⟩ := hv
  have hl := lv_entry ([.ref (ad 41), .ref (ad 32)]) (n := 4) (Nat.le_of_ble_eq_true rfl)
  rw [lg_entry_eq]
  generalize (lg_sl ([.ref (ad 41), .ref (ad 32)]) ++ List.replicate (4 - (lg_sl ([.ref (ad 41), .ref (ad 32)])).length) Slot.unset).toArray = ls at hl ⊢
  have hlocks := B.notSynchronized
  exact b_X6_spentByAll_41_32 ⟨B.exec, B.bytes, B.returns, hml, findClass_of_methodNamed B.named, atoms_spec (ws := wsX6_spentByAll) B.pre, hlocks, hK, hX0⟩ hj ⟨Nat.le_refl _, Nat.le_refl _⟩ N  f t r hf (fun H locs ls pc hd hP hS => W.iret B.exec B.bytes B.returns (fun t2 ht hW => ⟨⟨r, (f, t), rfl, ⟨rfl, rfl⟩, by show va_P D vwCl _ t2.heap; rw [ht]; exact hP⟩, hS.F ht⟩) hS.2.2 hd) s.heap [] ls hP va_S.rf hl
def lp_X6_waysToTell_41_28_9 (N : Nat) (f : mM) : Nat → Int64 → Int32 → Option (Int64)
  | 0, _, _ => none
  | n + 1, x2, x4 => if (f 3 1) ≤ x4 then some x2 else bi (q_X6_spentBy_41_28 x4 f) (fun y3 => sq (fun (v5 : Int64) => sq (x2 * v5) (fun x2_7 => sq (x4 + 1) (fun x4_8 => lp_X6_waysToTell_41_28_9 N f n x2_7 x4_8))) (fun k6 => if 9 < y3 then k6 0 else gi y3 10 (k6 (Int32.toInt64 (f 42 (Int32.toNatClampNeg y3))))))
theorem lp_X6_waysToTell_41_28_9_s (N : Nat) (f : mM) (n : Nat) (x2 : Int64) (x4 : Int32) : lp_X6_waysToTell_41_28_9 N f (n + 1) x2 x4 = (if (f 3 1) ≤ x4 then some x2 else bi (q_X6_spentBy_41_28 x4 f) (fun y3 => sq (fun (v5 : Int64) => sq (x2 * v5) (fun x2_7 => sq (x4 + 1) (fun x4_8 => lp_X6_waysToTell_41_28_9 N f n x2_7 x4_8))) (fun k6 => if 9 < y3 then k6 0 else gi y3 10 (k6 (Int32.toInt64 (f 42 (Int32.toNatClampNeg y3))))))) := rfl
set_option maxHeartbeats 4000000 in
set_option maxRecDepth 100000 in
theorem lp_X6_waysToTell_41_28_9_w (C0 : cX p s m args meth c cX6_waysToTell 6 (some .long) RX6 wsX6_waysToTell D cy (xP ad sk sv)) (hj : jP ad) (hR : 2 ≤ R.frames ∧ 43 ≤ R.locals) (N : Nat)  (f : mM) (t : Int64) (r2 : Int64) (kx58 : ∀ (H : Heap) (locs : List Loc) (ls : Array Slot), va_P D vwCl (wP ad cy f t) H → va_S (aP ad) s.heap H locs → lv_has ls 6 [(2, .long r2)] → W p l e R s m args below meth c H locs 0 0 Q (F0 m 58 ls [])) : ∀ (n : Nat) (x2 : Int64) (x4 : Int32), lp_X6_waysToTell_41_28_9 N f n x2 x4 = some r2 → ∀ (H : Heap) (locs : List Loc) (ls : Array Slot), va_P D vwCl (wP ad cy f t) H → va_S (aP ad) s.heap H locs → lv_has ls 6 [(0, .ref (ad 41)), (1, .ref (ad 28)), (2, .long x2), (4, .int x4)] → W p l e R s m args below meth c H locs 0 0 Q (F0 m 9 ls []) := by
  obtain ⟨hx, hb, hr, hml, hown, hts, hlocks, hK, hX0⟩ := id C0
  have lk15 := hts (.fieldLink RX6 15 "PlankNine$Tales" "marsh" "LPlankNine$Marsh;") (List.mem_of_getElem? (i := 1) rfl)
  have hiX6 : ∀ w ∈ u_ws RX6 TX6 3, w ∈ wsX6_waysToTell := fun w h => List.mem_cons_of_mem _ (List.mem_append_left _ (List.mem_append_left _ (List.mem_append_right _ h)))
  have ln34 := nlF_7 (args := args) hX0
  have hiX2 : ∀ w ∈ u_ws RX2 TX2 12, w ∈ wsX6_waysToTell := fun w h => List.mem_cons_of_mem _ (List.mem_append_left _ (List.mem_append_right _ h))
  have lk9 := hts (.fieldLink RX6 9 "PlankNine$Tales" "waysFor" "[I") (List.mem_of_getElem? (i := 2) rfl)
  intro n
  induction n with
  | zero =>
    intro x2 x4 hf
    exact no_none hf
  | succ n ih =>
    intro x2 x4 hf H locs ls hP hS hl
    have hf := (lp_X6_waysToTell_41_28_9_s N f n x2 x4).symm.trans hf
    refine lv_iload hx hb dX6_waysToTell_9 (lv_at hl 3 rfl) ?_
    refine lv_aload_n hx hb dX6_waysToTell_11 rfl (lv_at hl 0 rfl) ?_
    refine va_get (D := D) (ci := 6) (v := .ref (ad 3)) (C := RX6) (T := TX6) (N := 3) hx hb hts hiX6 hown hK hP 41 rfl rfl 0 (by decide) lk15 (fun _ h9 => h9) rfl dX6_waysToTell_12 ?_
    refine va_getN (D := D) (ci := 2) (v := .int (f 3 1)) (C := RX2) (T := TX2) (N := 12) hx hb hts hiX2 hown hK hP 3 rfl rfl 1 (by decide) ln34 (fun _ h9 => h9) rfl dX6_waysToTell_15 ?_
    refine lv_icmp_ge (tgt := 58) hx hb dX6_waysToTell_18 (by decide) (fun c18 => ?_) (fun c18 => ?_)
    · have hf := itT hf c18
      obtain rfl := Option.some.inj hf
      exact kx58 H locs ls hP hS (lv_sub hl [2] rfl)
    · have hf := itF hf c18
      refine lv_aload_n hx hb dX6_waysToTell_21 rfl (lv_at hl 0 rfl) ?_
      refine lv_aload_n hx hb dX6_waysToTell_22 rfl (lv_at hl 1 rfl) ?_
      refine lv_iload hx hb dX6_waysToTell_23 (lv_at hl 3 rfl) ?_
      obtain ⟨y3, hq4, hf⟩ := bi_out hf
      refine cw_vi (As := [.ref (ad 28), .int x4]) (rest := []) ⟨hx, hb, hml, hown, hts⟩ xP_S hK hX0 hS hP (c_X6_spentBy_41_28 hj l x4 f t y3 hq4) (cwV 2 hts gX6_waysToTell_X6_spentBy rfl rfl rfl (by decide +kernel) ⟨Nat.le_trans (Nat.le_of_ble_eq_true rfl) hR.1, Nat.le_trans (Nat.le_of_ble_eq_true rfl) hR.2⟩) (va_recv hK hP (ci := 6) (q0 := 41) rfl rfl) rfl hl.1 rfl (Nat.le_of_ble_eq_true rfl) ⟨Nat.zero_le _, Nat.zero_le _⟩ dX6_waysToTell_25 (fun H locs hP hS => ?_)
      refine lv_istore (lv' := [(5, .int y3), (0, .ref (ad 41)), (1, .ref (ad 28)), (2, .long x2), (4, .int x4)]) hx hb dX6_waysToTell_28 hl (by decide) rfl (fun ls hl => ?_)
      refine lv_lload_n hx hb dX6_waysToTell_30 rfl (lv_at hl 3 rfl) ?_
      refine lv_iload hx hb dX6_waysToTell_31 (lv_at hl 0 rfl) ?_
      refine lv_bipush (v := 9) hx hb dX6_waysToTell_33 (by decide) ?_
      obtain ⟨k6, ek6, hf⟩ := sq_out hf
      have hk6 : ∀ (v5 : Int64), k6 v5 = some r2 → ∀ (H : Heap) (locs : List Loc) (ls : Array Slot), va_P D vwCl (wP ad cy f t) H → va_S (aP ad) s.heap H locs → lv_has ls 6 [(0, .ref (ad 41)), (1, .ref (ad 28)), (4, .int x4)] → W p l e R s m args below meth c H locs 0 0 Q (F0 m 50 ls [.long v5, .long x2]) := by
        intro v5 hf H locs ls hP hS hl
        have hf := sk1 ek6 v5 hf
        refine lv_lmul hx hb dX6_waysToTell_50 ?_
        obtain ⟨x2_7, ex2_7, hf⟩ := sq_out hf
        refine lv_nml ex2_7 ?_
        refine lv_lstore_n (lv' := [(2, .long x2_7), (0, .ref (ad 41)), (1, .ref (ad 28)), (4, .int x4)]) hx hb dX6_waysToTell_51 rfl hl (by decide) rfl (fun ls hl => ?_)
        obtain ⟨x4_8, ex4_8, hf⟩ := sq_out hf
        refine lv_iinc (v := x4_8) (lv' := [(4, .int x4_8), (2, .long x2_7), (0, .ref (ad 41)), (1, .ref (ad 28))]) hx hb dX6_waysToTell_52 hl (k := 3) rfl (by rw [ex4_8]; rfl) (by decide) rfl (fun ls hl => ?_)
        refine lv_goto (tgt := 9) hx hb dX6_waysToTell_55 (by decide) ?_
        exact ih x2_7 x4_8 hf H locs ls hP hS (lv_sub hl [2, 3, 1, 0] rfl)
      refine lv_icmp_gt (tgt := 49) hx hb dX6_waysToTell_35 (by decide) (fun c35 => ?_) (fun c35 => ?_)
      · have hf := itT hf c35
        refine lv_lconst (v := 0) hx hb dX6_waysToTell_49 (by decide) ?_
        exact hk6 0 hf H locs ls hP hS (lv_sub hl [1, 2, 4] rfl)
      · have hf := itF hf c35
        refine lv_aload_n hx hb dX6_waysToTell_38 rfl (lv_at hl 1 rfl) ?_
        refine va_get (D := D) (ci := 6) (v := .ref (ad 42)) (C := RX6) (T := TX6) (N := 3) hx hb hts hiX6 hown hK hP 41 rfl rfl 2 (by decide) lk9 (fun _ h9 => h9) rfl dX6_waysToTell_39 ?_
        refine lv_iload hx hb dX6_waysToTell_42 (lv_at hl 0 rfl) ?_
        obtain ⟨hin9, hf⟩ := gi_out hf
        refine va_iald hx hb hK hP 42 1 rfl rfl hin9 dX6_waysToTell_44 ?_
        refine lv_i2l hx hb dX6_waysToTell_45 rfl ?_
        refine lv_goto (tgt := 50) hx hb dX6_waysToTell_46 (by decide) ?_
        exact hk6 _ hf H locs ls hP hS (lv_sub hl [1, 2, 4] rfl)
def q_X6_waysToTell_41_28 (N : Nat) (f : mM) : Option (Int64 × mM) := bi (q_X6_countWays N f) (fun f1 => bi (lp_X6_waysToTell_41_28_9 N f1 N 1 0) (fun y10 => some (y10, f1)))
set_option maxHeartbeats 4000000 in
set_option maxRecDepth 100000 in
theorem b_X6_waysToTell_41_28 (C0 : cX p s m args meth c cX6_waysToTell 6 (some .long) RX6 wsX6_waysToTell D cy (xP ad sk sv)) (hj : jP ad) (hR : 2 ≤ R.frames ∧ 43 ≤ R.locals) (N : Nat)  (f : mM) (t : Int64) (r : Int64) (fR : mM) (hf : q_X6_waysToTell_41_28 N f = some (r, fR)) (kr : ∀ (H : Heap) (locs : List Loc) (ls : Array Slot) (pc : Nat), decode cX6_waysToTell pc = .ok (.lreturn, 1) → va_P D vwCl (wP ad cy fR t) H → va_S (aP ad) s.heap H locs → W p l e R s m args below meth c H locs 0 0 Q (F0 m pc ls [.long r])) (H : Heap) (locs : List Loc) (ls : Array Slot) (hP : va_P D vwCl (wP ad cy f t) H) (hS : va_S (aP ad) s.heap H locs) (hl : lv_has ls 6 [(0, .ref (ad 41)), (1, .ref (ad 28))]) : W p l e R s m args below meth c H locs 0 0 Q (F0 m 0 ls []) := by
  obtain ⟨hx, hb, hr, hml, hown, hts, hlocks, hK, hX0⟩ := id C0
  unfold q_X6_waysToTell_41_28 at hf
  refine lv_aload_n hx hb dX6_waysToTell_0 rfl (lv_at hl 0 rfl) ?_
  obtain ⟨f1, hq2, hf⟩ := bi_out hf
  refine cw_vv (As := []) (rest := []) ⟨hx, hb, hml, hown, hts⟩ xP_S hK hX0 hS hP (c_X6_countWays hj l N f t f1 hq2) (cwV 0 hts gX6_waysToTell_X6_countWays rfl rfl rfl (by decide +kernel) ⟨Nat.le_trans (Nat.le_of_ble_eq_true rfl) hR.1, Nat.le_trans (Nat.le_of_ble_eq_true rfl) hR.2⟩) (va_recv hK hP (ci := 6) (q0 := 41) rfl rfl) rfl hl.1 rfl (Nat.le_of_ble_eq_true rfl) ⟨Nat.zero_le _, Nat.zero_le _⟩ dX6_waysToTell_1 (fun H locs hP hS => ?_)
  refine lv_lconst (v := 1) hx hb dX6_waysToTell_4 (by decide) ?_
  refine lv_lstore_n (lv' := [(2, .long 1), (0, .ref (ad 41)), (1, .ref (ad 28))]) hx hb dX6_waysToTell_5 rfl hl (by decide) rfl (fun ls hl => ?_)
  refine lv_iconst (v := 0) hx hb dX6_waysToTell_6 (by decide) ?_
  refine lv_istore (lv' := [(4, .int 0), (2, .long 1), (0, .ref (ad 41)), (1, .ref (ad 28))]) hx hb dX6_waysToTell_7 hl (by decide) rfl (fun ls hl => ?_)
  obtain ⟨y10, hlp11, hf⟩ := bi_out hf
  refine lp_X6_waysToTell_41_28_9_w C0 hj hR N f1 t y10 ?_ N 1 0 hlp11 H locs ls hP hS (lv_sub hl [2, 3, 1, 0] rfl)
  intro H locs ls hP hS hl
  refine lv_lload_n hx hb dX6_waysToTell_58 rfl (lv_at hl 0 rfl) ?_
  obtain ⟨rfl, rfl⟩ := Prod.mk.inj (Option.some.inj hf)
  exact kr H locs ls 59 dX6_waysToTell_59 hP hS
set_option maxHeartbeats 4000000 in
set_option maxRecDepth 100000 in
theorem c_X6_waysToTell_41_28 (hj : jP ad) (l : Launch) (N : Nat)  (f : mM) (t : Int64) (r : Int64) (fR : mM) (hf : q_X6_waysToTell_41_28 N f = some (r, fR)) : Met l yX6_waysToTell wsX6_waysToTell ({ frames := 2, cells := 0, slots := 0, locals := 43 }) (va_Pc ([.ref (ad 41), .ref (ad 28)]) (pre D cy (wP ad cy) (xP ad sk sv) f t)) (va_Ql (fun (r2 : Int64) (u : mM × Int64) => r2 = r ∧ u = (fR, t)) (atW D (wP ad cy)) (aP ad)) 0 0 (aP ad) := by
  refine Met.ofW (cc := cX6_waysToTell) (maxL := 6) (ret := (some .long)) (by decide) rfl ?_
  intro p e s m args below meth c s₁ B hml hv
  obtain ⟨rfl, hP, hK, hX0⟩ := hv
  have hl := lv_entry ([.ref (ad 41), .ref (ad 28)]) (n := 6) (Nat.le_of_ble_eq_true rfl)
  rw [lg_entry_eq]
  generalize (lg_sl ([.ref (ad 41), .ref (ad 28)]) ++ List.replicate (6 - (lg_sl ([.ref (ad 41), .ref (ad 28)])).length) Slot.unset).toArray = ls at hl ⊢
  have hlocks := B.notSynchronized
  exact b_X6_waysToTell_41_28 ⟨B.exec, B.bytes, B.returns, hml, findClass_of_methodNamed B.named, atoms_spec (ws := wsX6_waysToTell) B.pre, hlocks, hK, hX0⟩ hj ⟨Nat.le_refl _, Nat.le_refl _⟩ N  f t r fR hf (fun H locs ls pc hd hP hS => W.lret B.exec B.bytes B.returns (fun t2 ht hW => ⟨⟨r, (fR, t), rfl, ⟨rfl, rfl⟩, by show va_P D vwCl _ t2.heap; rw [ht]; exact hP⟩, hS.F ht⟩) hS.2.2 hd) s.heap [] ls hP va_S.rf hl
def lp_X6_waysToTell_41_32_9 (N : Nat) (f : mM) : Nat → Int64 → Int32 → Option (Int64)
  | 0, _, _ => none
  | n + 1, x2, x4 => if (f 3 1) ≤ x4 then some x2 else bi (q_X6_spentBy_41_32 x4 f) (fun y3 => sq (fun (v5 : Int64) => sq (x2 * v5) (fun x2_7 => sq (x4 + 1) (fun x4_8 => lp_X6_waysToTell_41_32_9 N f n x2_7 x4_8))) (fun k6 => if 9 < y3 then k6 0 else gi y3 10 (k6 (Int32.toInt64 (f 42 (Int32.toNatClampNeg y3))))))
theorem lp_X6_waysToTell_41_32_9_s (N : Nat) (f : mM) (n : Nat) (x2 : Int64) (x4 : Int32) : lp_X6_waysToTell_41_32_9 N f (n + 1) x2 x4 = (if (f 3 1) ≤ x4 then some x2 else bi (q_X6_spentBy_41_32 x4 f) (fun y3 => sq (fun (v5 : Int64) => sq (x2 * v5) (fun x2_7 => sq (x4 + 1) (fun x4_8 => lp_X6_waysToTell_41_32_9 N f n x2_7 x4_8))) (fun k6 => if 9 < y3 then k6 0 else gi y3 10 (k6 (Int32.toInt64 (f 42 (Int32.toNatClampNeg y3))))))) := rfl
set_option maxHeartbeats 4000000 in
set_option maxRecDepth 100000 in
theorem lp_X6_waysToTell_41_32_9_w (C0 : cX p s m args meth c cX6_waysToTell 6 (some .long) RX6 wsX6_waysToTell D cy (xP ad sk sv)) (hj : jP ad) (hR : 2 ≤ R.frames ∧ 43 ≤ R.locals) (N : Nat)  (f : mM) (t : Int64) (r2 : Int64) (kx58 : ∀ (H : Heap) (locs : List Loc) (ls : Array Slot), va_P D vwCl (wP ad cy f t) H → va_S (aP ad) s.heap H locs → lv_has ls 6 [(2, .long r2)] → W p l e R s m args below meth c H locs 0 0 Q (F0 m 58 ls [])) : ∀ (n : Nat) (x2 : Int64) (x4 : Int32), lp_X6_waysToTell_41_32_9 N f n x2 x4 = some r2 → ∀ (H : Heap) (locs : List Loc) (ls : Array Slot), va_P D vwCl (wP ad cy f t) H → va_S (aP ad) s.heap H locs → lv_has ls 6 [(0, .ref (ad 41)), (1, .ref (ad 32)), (2, .long x2), (4, .int x4)] → W p l e R s m args below meth c H locs 0 0 Q (F0 m 9 ls []) := by
  obtain ⟨hx, hb, hr, hml, hown, hts, hlocks, hK, hX0⟩ := id C0
  have lk15 := hts (.fieldLink RX6 15 "PlankNine$Tales" "marsh" "LPlankNine$Marsh;") (List.mem_of_getElem? (i := 1) rfl)
  have hiX6 : ∀ w ∈ u_ws RX6 TX6 3, w ∈ wsX6_waysToTell := fun w h => List.mem_cons_of_mem _ (List.mem_append_left _ (List.mem_append_left _ (List.mem_append_right _ h)))
  have ln34 := nlF_7 (args := args) hX0
  have hiX2 : ∀ w ∈ u_ws RX2 TX2 12, w ∈ wsX6_waysToTell := fun w h => List.mem_cons_of_mem _ (List.mem_append_left _ (List.mem_append_right _ h))
  have lk9 := hts (.fieldLink RX6 9 "PlankNine$Tales" "waysFor" "[I") (List.mem_of_getElem? (i := 2) rfl)
  intro n
  induction n with
  | zero =>
    intro x2 x4 hf
    exact no_none hf
  | succ n ih =>
    intro x2 x4 hf H locs ls hP hS hl
    have hf := (lp_X6_waysToTell_41_32_9_s N f n x2 x4).symm.trans hf
    refine lv_iload hx hb dX6_waysToTell_9 (lv_at hl 3 rfl) ?_
    refine lv_aload_n hx hb dX6_waysToTell_11 rfl (lv_at hl 0 rfl) ?_
    refine va_get (D := D) (ci := 6) (v := .ref (ad 3)) (C := RX6) (T := TX6) (N := 3) hx hb hts hiX6 hown hK hP 41 rfl rfl 0 (by decide) lk15 (fun _ h9 => h9) rfl dX6_waysToTell_12 ?_
    refine va_getN (D := D) (ci := 2) (v := .int (f 3 1)) (C := RX2) (T := TX2) (N := 12) hx hb hts hiX2 hown hK hP 3 rfl rfl 1 (by decide) ln34 (fun _ h9 => h9) rfl dX6_waysToTell_15 ?_
    refine lv_icmp_ge (tgt := 58) hx hb dX6_waysToTell_18 (by decide) (fun c18 => ?_) (fun c18 => ?_)
    · have hf := itT hf c18
      obtain rfl := Option.some.inj hf
      exact kx58 H locs ls hP hS (lv_sub hl [2] rfl)
    · have hf := itF hf c18
      refine lv_aload_n hx hb dX6_waysToTell_21 rfl (lv_at hl 0 rfl) ?_
      refine lv_aload_n hx hb dX6_waysToTell_22 rfl (lv_at hl 1 rfl) ?_
      refine lv_iload hx hb dX6_waysToTell_23 (lv_at hl 3 rfl) ?_
      obtain ⟨y3, hq4, hf⟩ := bi_out hf
      refine cw_vi (As := [.ref (ad 32), .int x4]) (rest := []) ⟨hx, hb, hml, hown, hts⟩ xP_S hK hX0 hS hP (c_X6_spentBy_41_32 hj l x4 f t y3 hq4) (cwV 2 hts gX6_waysToTell_X6_spentBy rfl rfl rfl (by decide +kernel) ⟨Nat.le_trans (Nat.le_of_ble_eq_true rfl) hR.1, Nat.le_trans (Nat.le_of_ble_eq_true rfl) hR.2⟩) (va_recv hK hP (ci := 6) (q0 := 41) rfl rfl) rfl hl.1 rfl (Nat.le_of_ble_eq_true rfl) ⟨Nat.zero_le _, Nat.zero_le _⟩ dX6_waysToTell_25 (fun H locs hP hS => ?_)
      refine lv_istore (lv' := [(5, .int y3), (0, .ref (ad 41)), (1, .ref (ad 32)), (2, .long x2), (4, .int x4)]) hx hb dX6_waysToTell_28 hl (by decide) rfl (fun ls hl => ?_)
      refine lv_lload_n hx hb dX6_waysToTell_30 rfl (lv_at hl 3 rfl) ?_
      refine lv_iload hx hb dX6_waysToTell_31 (lv_at hl 0 rfl) ?_
      refine lv_bipush (v := 9) hx hb dX6_waysToTell_33 (by decide) ?_
      obtain ⟨k6, ek6, hf⟩ := sq_out hf
      have hk6 : ∀ (v5 : Int64), k6 v5 = some r2 → ∀ (H : Heap) (locs : List Loc) (ls : Array Slot), va_P D vwCl (wP ad cy f t) H → va_S (aP ad) s.heap H locs → lv_has ls 6 [(0, .ref (ad 41)), (1, .ref (ad 32)), (4, .int x4)] → W p l e R s m args below meth c H locs 0 0 Q (F0 m 50 ls [.long v5, .long x2]) := by
        intro v5 hf H locs ls hP hS hl
        have hf := sk1 ek6 v5 hf
        refine lv_lmul hx hb dX6_waysToTell_50 ?_
        obtain ⟨x2_7, ex2_7, hf⟩ := sq_out hf
        refine lv_nml ex2_7 ?_
        refine lv_lstore_n (lv' := [(2, .long x2_7), (0, .ref (ad 41)), (1, .ref (ad 32)), (4, .int x4)]) hx hb dX6_waysToTell_51 rfl hl (by decide) rfl (fun ls hl => ?_)
        obtain ⟨x4_8, ex4_8, hf⟩ := sq_out hf
        refine lv_iinc (v := x4_8) (lv' := [(4, .int x4_8), (2, .long x2_7), (0, .ref (ad 41)), (1, .ref (ad 32))]) hx hb dX6_waysToTell_52 hl (k := 3) rfl (by rw [ex4_8]; rfl) (by decide) rfl (fun ls hl => ?_)
        refine lv_goto (tgt := 9) hx hb dX6_waysToTell_55 (by decide) ?_
        exact ih x2_7 x4_8 hf H locs ls hP hS (lv_sub hl [2, 3, 1, 0] rfl)
      refine lv_icmp_gt (tgt := 49) hx hb dX6_waysToTell_35 (by decide) (fun c35 => ?_) (fun c35 => ?_)
      · have hf := itT hf c35
        refine lv_lconst (v := 0) hx hb dX6_waysToTell_49 (by decide) ?_
        exact hk6 0 hf H locs ls hP hS (lv_sub hl [1, 2, 4] rfl)
      · have hf := itF hf c35
        refine lv_aload_n hx hb dX6_waysToTell_38 rfl (lv_at hl 1 rfl) ?_
        refine va_get (D := D) (ci := 6) (v := .ref (ad 42)) (C := RX6) (T := TX6) (N := 3) hx hb hts hiX6 hown hK hP 41 rfl rfl 2 (by decide) lk9 (fun _ h9 => h9) rfl dX6_waysToTell_39 ?_
        refine lv_iload hx hb dX6_waysToTell_42 (lv_at hl 0 rfl) ?_
        obtain ⟨hin9, hf⟩ := gi_out hf
        refine va_iald hx hb hK hP 42 1 rfl rfl hin9 dX6_waysToTell_44 ?_
        refine lv_i2l hx hb dX6_waysToTell_45 rfl ?_
        refine lv_goto (tgt := 50) hx hb dX6_waysToTell_46 (by decide) ?_
        exact hk6 _ hf H locs ls hP hS (lv_sub hl [1, 2, 4] rfl)
def q_X6_waysToTell_41_32 (N : Nat) (f : mM) : Option (Int64 × mM) := bi (q_X6_countWays N f) (fun f1 => bi (lp_X6_waysToTell_41_32_9 N f1 N 1 0) (fun y10 => some (y10, f1)))
set_option maxHeartbeats 4000000 in
set_option maxRecDepth 100000 in
theorem b_X6_waysToTell_41_32 (C0 : cX p s m args meth c cX6_waysToTell 6 (some .long) RX6 wsX6_waysToTell D cy (xP ad sk sv)) (hj : jP ad) (hR : 2 ≤ R.frames ∧ 43 ≤ R.locals) (N : Nat)  (f : mM) (t : Int64) (r : Int64) (fR : mM) (hf : q_X6_waysToTell_41_32 N f = some (r, fR)) (kr : ∀ (H : Heap) (locs : List Loc) (ls : Array Slot) (pc : Nat), decode cX6_waysToTell pc = .ok (.lreturn, 1) → va_P D vwCl (wP ad cy fR t) H → va_S (aP ad) s.heap H locs → W p l e R s m args below meth c H locs 0 0 Q (F0 m pc ls [.long r])) (H : Heap) (locs : List Loc) (ls : Array Slot) (hP : va_P D vwCl (wP ad cy f t) H) (hS : va_S (aP ad) s.heap H locs) (hl : lv_has ls 6 [(0, .ref (ad 41)), (1, .ref (ad 32))]) : W p l e R s m args below meth c H locs 0 0 Q (F0 m 0 ls []) := by
  obtain ⟨hx, hb, hr, hml, hown, hts, hlocks, hK, hX0⟩ := id C0
  unfold q_X6_waysToTell_41_32 at hf
  refine lv_aload_n hx hb dX6_waysToTell_0 rfl (lv_at hl 0 rfl) ?_
  obtain ⟨f1, hq2, hf⟩ := bi_out hf
  refine cw_vv (As := []) (rest := []) ⟨hx, hb, hml, hown, hts⟩ xP_S hK hX0 hS hP (c_X6_countWays hj l N f t f1 hq2) (cwV 0 hts gX6_waysToTell_X6_countWays rfl rfl rfl (by decide +kernel) ⟨Nat.le_trans (Nat.le_of_ble_eq_true rfl) hR.1, Nat.le_trans (Nat.le_of_ble_eq_true rfl) hR.2⟩) (va_recv hK hP (ci := 6) (q0 := 41) rfl rfl) rfl hl.1 rfl (Nat.le_of_ble_eq_true rfl) ⟨Nat.zero_le _, Nat.zero_le _⟩ dX6_waysToTell_1 (fun H locs hP hS => ?_)
  refine lv_lconst (v := 1) hx hb dX6_waysToTell_4 (by decide) ?_
  refine lv_lstore_n (lv' := [(2, .long 1), (0, .ref (ad 41)), (1, .ref (ad 32))]) hx hb dX6_waysToTell_5 rfl hl (by decide) rfl (fun ls hl => ?_)
  refine lv_iconst (v := 0) hx hb dX6_waysToTell_6 (by decide) ?_
  refine lv_istore (lv' := [(4, .int 0), (2, .long 1), (0, .ref (ad 41)), (1, .ref (ad 32))]) hx hb dX6_waysToTell_7 hl (by decide) rfl (fun ls hl => ?_)
  obtain ⟨y10, hlp11, hf⟩ := bi_out hf
  refine lp_X6_waysToTell_41_32_9_w C0 hj hR N f1 t y10 ?_ N 1 0 hlp11 H locs ls hP hS (lv_sub hl [2, 3, 1, 0] rfl)
  intro H locs ls hP hS hl
  refine lv_lload_n hx hb dX6_waysToTell_58 rfl (lv_at hl 0 rfl) ?_
  obtain ⟨rfl, rfl⟩ := Prod.mk.inj (Option.some.inj hf)
  exact kr H locs ls 59 dX6_waysToTell_59 hP hS
set_option maxHeartbeats 4000000 in
set_option maxRecDepth 100000 in
theorem c_X6_waysToTell_41_32 (hj : jP ad) (l : Launch) (N : Nat)  (f : mM) (t : Int64) (r : Int64) (fR : mM) (hf : q_X6_waysToTell_41_32 N f = some (r, fR)) : Met l yX6_waysToTell wsX6_waysToTell ({ frames := 2, cells := 0, slots := 0, locals := 43 }) (va_Pc ([.ref (ad 41), .ref (ad 32)]) (pre D cy (wP ad cy) (xP ad sk sv) f t)) (va_Ql (fun (r2 : Int64) (u : mM × Int64) => r2 = r ∧ u = (fR, t)) (atW D (wP ad cy)) (aP ad)) 0 0 (aP ad) := by
  refine Met.ofW (cc := cX6_waysToTell) (maxL := 6) (ret := (some .long)) (by decide) rfl ?_
  intro p e s m args below meth c s₁ B hml hv
  obtain ⟨rfl, hP, hK, hX0⟩ := hv
  have hl := lv_entry ([.ref (ad 41), .ref (ad 32)]) (n := 6) (Nat.le_of_ble_eq_true rfl)
  rw [lg_entry_eq]
  generalize (lg_sl ([.ref (ad 41), .ref (ad 32)]) ++ List.replicate (6 - (lg_sl ([.ref (ad 41), .ref (ad 32)])).length) Slot.unset).toArray = ls at hl ⊢
  have hlocks := B.notSynchronized
  exact b_X6_waysToTell_41_32 ⟨B.exec, B.bytes, B.returns, hml, findClass_of_methodNamed B.named, atoms_spec (ws := wsX6_waysToTell) B.pre, hlocks, hK, hX0⟩ hj ⟨Nat.le_refl _, Nat.le_refl _⟩ N  f t r fR hf (fun H locs ls pc hd hP hS => W.lret B.exec B.bytes B.returns (fun t2 ht hW => ⟨⟨r, (fR, t), rfl, ⟨rfl, rfl⟩, by show va_P D vwCl _ t2.heap; rw [ht]; exact hP⟩, hS.F ht⟩) hS.2.2 hd) s.heap [] ls hP va_S.rf hl
