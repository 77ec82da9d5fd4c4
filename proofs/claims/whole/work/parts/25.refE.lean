variable {p : Program} {l : Launch} {e : Env} {R : Room} {s : State} {m : MethodId} {args : Array Value} {below : List Frame} {meth : Method} {c : Code} {Q : State → Prop} {D : va_G} {cy : Nat → ClassId} {ad sk sv : Nat → Nat}
def lp_X10_areApart_20 (N : Nat) (x2 : Int32) (x3 : Int32) (x5 : Int32) (f : mM) : Nat → Int32 → Int32 → Option (Int32)
  | 0, _, _ => none
  | n + 1, x4, x6 => if (f 0 16) ≤ x6 then some x4 else sq (fun (v2 : Int32) => sq (fun (v4 : Int32) => sq (x4 ||| v4) (fun x4_6 => sq (x6 + 1) (fun x6_7 => lp_X10_areApart_20 N x2 x3 x5 f n x4_6 x6_7))) (fun k5 => if v2 = 0 then k5 0 else gi x6 18 (gi x6 18 (k5 ((1 <<< ((f 2 (Int32.toNatClampNeg x6)) &&& 31)) ||| (1 <<< ((f 3 (Int32.toNatClampNeg x6)) &&& 31))))))) (fun k3 => sq (fun (_ : Unit) => k3 0) (fun k10 => if ((x3 >>> (x6 &&& 31)) &&& 1) = 0 then gi x6 18 (if ((x4 >>> ((f 2 (Int32.toNatClampNeg x6)) &&& 31)) &&& 1) = 1 then k3 1 else gi x6 18 (if ((x4 >>> ((f 3 (Int32.toNatClampNeg x6)) &&& 31)) &&& 1) = 1 then k3 1 else k10 ())) else k10 ()))
theorem lp_X10_areApart_20_s (N : Nat) (x2 : Int32) (x3 : Int32) (x5 : Int32) (f : mM) (n : Nat) (x4 : Int32) (x6 : Int32) : lp_X10_areApart_20 N x2 x3 x5 f (n + 1) x4 x6 = (if (f 0 16) ≤ x6 then some x4 else sq (fun (v2 : Int32) => sq (fun (v4 : Int32) => sq (x4 ||| v4) (fun x4_6 => sq (x6 + 1) (fun x6_7 => lp_X10_areApart_20 N x2 x3 x5 f n x4_6 x6_7))) (fun k5 => if v2 = 0 then k5 0 else gi x6 18 (gi x6 18 (k5 ((1 <<< ((f 2 (Int32.toNatClampNeg x6)) &&& 31)) ||| (1 <<< ((f 3 (Int32.toNatClampNeg x6)) &&& 31))))))) (fun k3 => sq (fun (_ : Unit) => k3 0) (fun k10 => if ((x3 >>> (x6 &&& 31)) &&& 1) = 0 then gi x6 18 (if ((x4 >>> ((f 2 (Int32.toNatClampNeg x6)) &&& 31)) &&& 1) = 1 then k3 1 else gi x6 18 (if ((x4 >>> ((f 3 (Int32.toNatClampNeg x6)) &&& 31)) &&& 1) = 1 then k3 1 else k10 ())) else k10 ()))) := rfl
set_option maxHeartbeats 4000000 in
set_option maxRecDepth 100000 in
theorem lp_X10_areApart_20_w (C0 : cX p s m args meth c cX10_areApart 8 (some .boolean) RX10 wsX10_areApart D cy (xR)) (hj : jR ad) (hR : 0 ≤ R.frames ∧ 0 ≤ R.locals) (N : Nat) (x2 : Int32) (x3 : Int32) (x5 : Int32) (f : mM) (t : Int64) (r4 : Int32) (kx116 : ∀ (H : Heap) (locs : List Loc) (ls : Array Slot), va_P D vwCl (wR ad cy f t) H → va_S (aR ad) s.heap H locs → lv_has ls 8 [(0, .ref (ad 0)), (2, .int x2), (3, .int x3), (4, .int r4), (5, .int x5)] → W p l e R s m args below meth c H locs 0 0 Q (F0 m 116 ls [])) : ∀ (n : Nat) (x4 : Int32) (x6 : Int32), lp_X10_areApart_20 N x2 x3 x5 f n x4 x6 = some r4 → ∀ (H : Heap) (locs : List Loc) (ls : Array Slot), va_P D vwCl (wR ad cy f t) H → va_S (aR ad) s.heap H locs → lv_has ls 8 [(0, .ref (ad 0)), (2, .int x2), (3, .int x3), (4, .int x4), (5, .int x5), (6, .int x6)] → W p l e R s m args below meth c H locs 0 0 Q (F0 m 20 ls []) := by
  obtain ⟨hx, hb, hr, hml, hown, hts, hlocks, hK, hX0⟩ := id C0
  have lk148 := hts (.fieldLink RX10 148 "PlankNineModel" "planks" "I") (List.mem_of_getElem? (i := 2) rfl)
  have hiX10 : ∀ w ∈ u_ws RX10 TX10 34, w ∈ wsX10_areApart := fun w h => List.mem_cons_of_mem _ (List.mem_append_right _ h)
  have lk13 := hts (.fieldLink RX10 13 "PlankNineModel" "one" "[I") (List.mem_of_getElem? (i := 3) rfl)
  have lk16 := hts (.fieldLink RX10 16 "PlankNineModel" "other" "[I") (List.mem_of_getElem? (i := 4) rfl)
  intro n
  induction n with
  | zero =>
    intro x4 x6 hf
    exact no_none hf
  | succ n ih =>
    intro x4 x6 hf H locs ls hP hS hl
    have hf := (lp_X10_areApart_20_s N x2 x3 x5 f n x4 x6).symm.trans hf
    refine lv_iload hx hb dX10_areApart_20 (lv_at hl 5 rfl) ?_
    refine lv_aload_n hx hb dX10_areApart_22 rfl (lv_at hl 0 rfl) ?_
    refine va_get (D := D) (ci := 10) (v := .int (f 0 16)) (C := RX10) (T := TX10) (N := 34) hx hb hts hiX10 hown hK hP 0 rfl rfl 16 (by decide) lk148 (fun _ h9 => h9) rfl dX10_areApart_23 ?_
    refine lv_icmp_ge (tgt := 116) hx hb dX10_areApart_26 (by decide) (fun c26 => ?_) (fun c26 => ?_)
    · have hf := itT hf c26
      obtain rfl := Option.some.inj hf
      exact kx116 H locs ls hP hS (lv_sub hl [0, 1, 2, 3, 4] rfl)
    · have hf := itF hf c26
      refine lv_iload_n hx hb dX10_areApart_29 rfl (lv_at hl 2 rfl) ?_
      refine lv_iload hx hb dX10_areApart_30 (lv_at hl 5 rfl) ?_
      refine lv_ishr hx hb dX10_areApart_32 ?_
      refine lv_iconst (v := 1) hx hb dX10_areApart_33 (by decide) ?_
      refine lv_iand hx hb dX10_areApart_34 ?_
      obtain ⟨k3, ek3, hf⟩ := sq_out hf
      have hk3 : ∀ (v2 : Int32), k3 v2 = some r4 → ∀ (H : Heap) (locs : List Loc) (ls : Array Slot), va_P D vwCl (wR ad cy f t) H → va_S (aR ad) s.heap H locs → lv_has ls 8 [(0, .ref (ad 0)), (2, .int x2), (3, .int x3), (4, .int x4), (5, .int x5), (6, .int x6)] → W p l e R s m args below meth c H locs 0 0 Q (F0 m 75 ls [.int v2]) := by
        intro v2 hf H locs ls hP hS hl
        have hf := sk1 ek3 v2 hf
        refine lv_istore (lv' := [(7, .int v2), (0, .ref (ad 0)), (2, .int x2), (3, .int x3), (4, .int x4), (5, .int x5), (6, .int x6)]) hx hb dX10_areApart_75 hl (by decide) rfl (fun ls hl => ?_)
        refine lv_iload hx hb dX10_areApart_77 (lv_at hl 4 rfl) ?_
        refine lv_iload hx hb dX10_areApart_79 (lv_at hl 0 rfl) ?_
        obtain ⟨k5, ek5, hf⟩ := sq_out hf
        have hk5 : ∀ (v4 : Int32), k5 v4 = some r4 → ∀ (H : Heap) (locs : List Loc) (ls : Array Slot), va_P D vwCl (wR ad cy f t) H → va_S (aR ad) s.heap H locs → lv_has ls 8 [(0, .ref (ad 0)), (2, .int x2), (3, .int x3), (5, .int x5), (6, .int x6)] → W p l e R s m args below meth c H locs 0 0 Q (F0 m 107 ls [.int v4, .int x4]) := by
          intro v4 hf H locs ls hP hS hl
          have hf := sk1 ek5 v4 hf
          refine lv_ior hx hb dX10_areApart_107 ?_
          obtain ⟨x4_6, ex4_6, hf⟩ := sq_out hf
          refine lv_nmi ex4_6 ?_
          refine lv_istore (lv' := [(4, .int x4_6), (0, .ref (ad 0)), (2, .int x2), (3, .int x3), (5, .int x5), (6, .int x6)]) hx hb dX10_areApart_108 hl (by decide) rfl (fun ls hl => ?_)
          obtain ⟨x6_7, ex6_7, hf⟩ := sq_out hf
          refine lv_iinc (v := x6_7) (lv' := [(6, .int x6_7), (4, .int x4_6), (0, .ref (ad 0)), (2, .int x2), (3, .int x3), (5, .int x5)]) hx hb dX10_areApart_110 hl (k := 5) rfl (by rw [ex6_7]; rfl) (by decide) rfl (fun ls hl => ?_)
          refine lv_goto (tgt := 20) hx hb dX10_areApart_113 (by decide) ?_
          exact ih x4_6 x6_7 hf H locs ls hP hS (lv_sub hl [2, 3, 4, 1, 5, 0] rfl)
        refine lv_if_eq (tgt := 106) hx hb dX10_areApart_81 (by decide) (fun c81 => ?_) (fun c81 => ?_)
        · have hf := itT hf c81
          refine lv_iconst (v := 0) hx hb dX10_areApart_106 (by decide) ?_
          exact hk5 0 hf H locs ls hP hS (lv_sub hl [1, 2, 3, 5, 6] rfl)
        · have hf := itF hf c81
          refine lv_iconst (v := 1) hx hb dX10_areApart_84 (by decide) ?_
          refine lv_aload_n hx hb dX10_areApart_85 rfl (lv_at hl 1 rfl) ?_
          refine va_get (D := D) (ci := 10) (v := .ref (ad 2)) (C := RX10) (T := TX10) (N := 34) hx hb hts hiX10 hown hK hP 0 rfl rfl 9 (by decide) lk13 (fun _ h9 => h9) rfl dX10_areApart_86 ?_
          refine lv_iload hx hb dX10_areApart_89 (lv_at hl 6 rfl) ?_
          obtain ⟨hin8, hf⟩ := gi_out hf
          refine va_iald hx hb hK hP 2 1 rfl rfl hin8 dX10_areApart_91 ?_
          refine lv_ishl hx hb dX10_areApart_92 ?_
          refine lv_iconst (v := 1) hx hb dX10_areApart_93 (by decide) ?_
          refine lv_aload_n hx hb dX10_areApart_94 rfl (lv_at hl 1 rfl) ?_
          refine va_get (D := D) (ci := 10) (v := .ref (ad 3)) (C := RX10) (T := TX10) (N := 34) hx hb hts hiX10 hown hK hP 0 rfl rfl 10 (by decide) lk16 (fun _ h9 => h9) rfl dX10_areApart_95 ?_
          refine lv_iload hx hb dX10_areApart_98 (lv_at hl 6 rfl) ?_
          obtain ⟨hin9, hf⟩ := gi_out hf
          refine va_iald hx hb hK hP 3 1 rfl rfl hin9 dX10_areApart_100 ?_
          refine lv_ishl hx hb dX10_areApart_101 ?_
          refine lv_ior hx hb dX10_areApart_102 ?_
          refine lv_goto (tgt := 107) hx hb dX10_areApart_103 (by decide) ?_
          exact hk5 _ hf H locs ls hP hS (lv_sub hl [1, 2, 3, 5, 6] rfl)
      obtain ⟨k10, ek10, hf⟩ := sq_out hf
      have hk10 : k10 () = some r4 → ∀ (H : Heap) (locs : List Loc) (ls : Array Slot), va_P D vwCl (wR ad cy f t) H → va_S (aR ad) s.heap H locs → lv_has ls 8 [(0, .ref (ad 0)), (2, .int x2), (3, .int x3), (4, .int x4), (5, .int x5), (6, .int x6)] → W p l e R s m args below meth c H locs 0 0 Q (F0 m 74 ls []) := by
        intro hf H locs ls hP hS hl
        have hf := sk1 ek10 () hf
        refine lv_iconst (v := 0) hx hb dX10_areApart_74 (by decide) ?_
        exact hk3 0 hf H locs ls hP hS (lv_sub hl [0, 1, 2, 3, 4, 5] rfl)
      refine lv_if_ne (tgt := 74) hx hb dX10_areApart_35 (by decide) (fun c35 => ?_) (fun c35 => ?_)
      · have hf := itF hf c35
        exact hk10 hf H locs ls hP hS (lv_sub hl [0, 1, 2, 3, 4, 5] rfl)
      · have hf := itT hf c35
        refine lv_iload hx hb dX10_areApart_38 (lv_at hl 3 rfl) ?_
        refine lv_aload_n hx hb dX10_areApart_40 rfl (lv_at hl 0 rfl) ?_
        refine va_get (D := D) (ci := 10) (v := .ref (ad 2)) (C := RX10) (T := TX10) (N := 34) hx hb hts hiX10 hown hK hP 0 rfl rfl 9 (by decide) lk13 (fun _ h9 => h9) rfl dX10_areApart_41 ?_
        refine lv_iload hx hb dX10_areApart_44 (lv_at hl 5 rfl) ?_
        obtain ⟨hin11, hf⟩ := gi_out hf
        refine va_iald hx hb hK hP 2 1 rfl rfl hin11 dX10_areApart_46 ?_
        refine lv_ishr hx hb dX10_areApart_47 ?_
        refine lv_iconst (v := 1) hx hb dX10_areApart_48 (by decide) ?_
        refine lv_iand hx hb dX10_areApart_49 ?_
        refine lv_iconst (v := 1) hx hb dX10_areApart_50 (by decide) ?_
        refine lv_icmp_eq (tgt := 70) hx hb dX10_areApart_51 (by decide) (fun c51 => ?_) (fun c51 => ?_)
        · have hf := itT hf c51
          refine lv_iconst (v := 1) hx hb dX10_areApart_70 (by decide) ?_
          refine lv_goto (tgt := 75) hx hb dX10_areApart_71 (by decide) ?_
          exact hk3 1 hf H locs ls hP hS (lv_sub hl [0, 1, 2, 3, 4, 5] rfl)
        · have hf := itF hf c51
          refine lv_iload hx hb dX10_areApart_54 (lv_at hl 3 rfl) ?_
          refine lv_aload_n hx hb dX10_areApart_56 rfl (lv_at hl 0 rfl) ?_
          refine va_get (D := D) (ci := 10) (v := .ref (ad 3)) (C := RX10) (T := TX10) (N := 34) hx hb hts hiX10 hown hK hP 0 rfl rfl 10 (by decide) lk16 (fun _ h9 => h9) rfl dX10_areApart_57 ?_
          refine lv_iload hx hb dX10_areApart_60 (lv_at hl 5 rfl) ?_
          obtain ⟨hin12, hf⟩ := gi_out hf
          refine va_iald hx hb hK hP 3 1 rfl rfl hin12 dX10_areApart_62 ?_
          refine lv_ishr hx hb dX10_areApart_63 ?_
          refine lv_iconst (v := 1) hx hb dX10_areApart_64 (by decide) ?_
          refine lv_iand hx hb dX10_areApart_65 ?_
          refine lv_iconst (v := 1) hx hb dX10_areApart_66 (by decide) ?_
          refine lv_icmp_ne (tgt := 74) hx hb dX10_areApart_67 (by decide) (fun c67 => ?_) (fun c67 => ?_)
          · have hf := itF hf c67
            exact hk10 hf H locs ls hP hS (lv_sub hl [0, 1, 2, 3, 4, 5] rfl)
          · have hf := itT hf c67
            refine lv_iconst (v := 1) hx hb dX10_areApart_70 (by decide) ?_
            refine lv_goto (tgt := 75) hx hb dX10_areApart_71 (by decide) ?_
            exact hk3 1 hf H locs ls hP hS (lv_sub hl [0, 1, 2, 3, 4, 5] rfl)
def lp_X10_areApart_8 (N : Nat) (x2 : Int32) (x3 : Int32) (f : mM) : Nat → Int32 → Int32 → Option (Int32)
  | 0, _, _ => none
  | n + 1, x4, x5 => if (f 0 15) ≤ x5 then some x4 else bi (lp_X10_areApart_20 N x2 x3 x5 f N x4 0) (fun y13 => sq (x5 + 1) (fun x5_15 => lp_X10_areApart_8 N x2 x3 f n y13 x5_15))
theorem lp_X10_areApart_8_s (N : Nat) (x2 : Int32) (x3 : Int32) (f : mM) (n : Nat) (x4 : Int32) (x5 : Int32) : lp_X10_areApart_8 N x2 x3 f (n + 1) x4 x5 = (if (f 0 15) ≤ x5 then some x4 else bi (lp_X10_areApart_20 N x2 x3 x5 f N x4 0) (fun y13 => sq (x5 + 1) (fun x5_15 => lp_X10_areApart_8 N x2 x3 f n y13 x5_15))) := rfl
set_option maxHeartbeats 4000000 in
set_option maxRecDepth 100000 in
theorem lp_X10_areApart_8_w (C0 : cX p s m args meth c cX10_areApart 8 (some .boolean) RX10 wsX10_areApart D cy (xR)) (hj : jR ad) (hR : 0 ≤ R.frames ∧ 0 ≤ R.locals) (N : Nat) (x2 : Int32) (x3 : Int32) (f : mM) (t : Int64) (r4 : Int32) (kx122 : ∀ (H : Heap) (locs : List Loc) (ls : Array Slot), va_P D vwCl (wR ad cy f t) H → va_S (aR ad) s.heap H locs → lv_has ls 8 [(2, .int x2), (4, .int r4)] → W p l e R s m args below meth c H locs 0 0 Q (F0 m 122 ls [])) : ∀ (n : Nat) (x4 : Int32) (x5 : Int32), lp_X10_areApart_8 N x2 x3 f n x4 x5 = some r4 → ∀ (H : Heap) (locs : List Loc) (ls : Array Slot), va_P D vwCl (wR ad cy f t) H → va_S (aR ad) s.heap H locs → lv_has ls 8 [(0, .ref (ad 0)), (2, .int x2), (3, .int x3), (4, .int x4), (5, .int x5)] → W p l e R s m args below meth c H locs 0 0 Q (F0 m 8 ls []) := by
  obtain ⟨hx, hb, hr, hml, hown, hts, hlocks, hK, hX0⟩ := id C0
  have lk65 := hts (.fieldLink RX10 65 "PlankNineModel" "places" "I") (List.mem_of_getElem? (i := 1) rfl)
  have hiX10 : ∀ w ∈ u_ws RX10 TX10 34, w ∈ wsX10_areApart := fun w h => List.mem_cons_of_mem _ (List.mem_append_right _ h)
  intro n
  induction n with
  | zero =>
    intro x4 x5 hf
    exact no_none hf
  | succ n ih =>
    intro x4 x5 hf H locs ls hP hS hl
    have hf := (lp_X10_areApart_8_s N x2 x3 f n x4 x5).symm.trans hf
    refine lv_iload hx hb dX10_areApart_8 (lv_at hl 4 rfl) ?_
    refine lv_aload_n hx hb dX10_areApart_10 rfl (lv_at hl 0 rfl) ?_
    refine va_get (D := D) (ci := 10) (v := .int (f 0 15)) (C := RX10) (T := TX10) (N := 34) hx hb hts hiX10 hown hK hP 0 rfl rfl 15 (by decide) lk65 (fun _ h9 => h9) rfl dX10_areApart_11 ?_
    refine lv_icmp_ge (tgt := 122) hx hb dX10_areApart_14 (by decide) (fun c14 => ?_) (fun c14 => ?_)
    · have hf := itT hf c14
      obtain rfl := Option.some.inj hf
      exact kx122 H locs ls hP hS (lv_sub hl [1, 3] rfl)
    · have hf := itF hf c14
      refine lv_iconst (v := 0) hx hb dX10_areApart_17 (by decide) ?_
      refine lv_istore (lv' := [(6, .int 0), (0, .ref (ad 0)), (2, .int x2), (3, .int x3), (4, .int x4), (5, .int x5)]) hx hb dX10_areApart_18 hl (by decide) rfl (fun ls hl => ?_)
      obtain ⟨y13, hlp14, hf⟩ := bi_out hf
      refine lp_X10_areApart_20_w C0 hj hR N x2 x3 x5 f t y13 ?_ N x4 0 hlp14 H locs ls hP hS (lv_sub hl [1, 2, 3, 4, 5, 0] rfl)
      intro H locs ls hP hS hl
      obtain ⟨x5_15, ex5_15, hf⟩ := sq_out hf
      refine lv_iinc (v := x5_15) (lv' := [(5, .int x5_15), (0, .ref (ad 0)), (2, .int x2), (3, .int x3), (4, .int y13)]) hx hb dX10_areApart_116 hl (k := 4) rfl (by rw [ex5_15]; rfl) (by decide) rfl (fun ls hl => ?_)
      refine lv_goto (tgt := 8) hx hb dX10_areApart_119 (by decide) ?_
      exact ih y13 x5_15 hf H locs ls hP hS (lv_sub hl [1, 2, 3, 4, 0] rfl)
def q_X10_areApart (N : Nat) (x1 : Int32) (x2 : Int32) (x3 : Int32) (f : mM) : Option (Int32) := sq (1 <<< (x1 &&& 31)) (fun x4_1 => bi (lp_X10_areApart_8 N x2 x3 f N x4_1 0) (fun y16 => if ((y16 >>> (x2 &&& 31)) &&& 1) = 0 then rz 1 (some 1) else rz 0 (some 0)))
set_option maxHeartbeats 4000000 in
set_option maxRecDepth 100000 in
theorem b_X10_areApart (C0 : cX p s m args meth c cX10_areApart 8 (some .boolean) RX10 wsX10_areApart D cy (xR)) (hj : jR ad) (hR : 0 ≤ R.frames ∧ 0 ≤ R.locals) (N : Nat) (x1 : Int32) (x2 : Int32) (x3 : Int32) (f : mM) (t : Int64) (r : Int32) (hf : q_X10_areApart N x1 x2 x3 f = some r) (kr : ∀ (H : Heap) (locs : List Loc) (ls : Array Slot) (pc : Nat), decode cX10_areApart pc = .ok (.ireturn, 1) → narrow .boolean (.int r) = .int r → va_P D vwCl (wR ad cy f t) H → va_S (aR ad) s.heap H locs → W p l e R s m args below meth c H locs 0 0 Q (F0 m pc ls [.int r])) (H : Heap) (locs : List Loc) (ls : Array Slot) (hP : va_P D vwCl (wR ad cy f t) H) (hS : va_S (aR ad) s.heap H locs) (hl : lv_has ls 8 [(0, .ref (ad 0)), (1, .int x1), (2, .int x2), (3, .int x3)]) : W p l e R s m args below meth c H locs 0 0 Q (F0 m 0 ls []) := by
  obtain ⟨hx, hb, hr, hml, hown, hts, hlocks, hK, hX0⟩ := id C0
  unfold q_X10_areApart at hf
  refine lv_iconst (v := 1) hx hb dX10_areApart_0 (by decide) ?_
  refine lv_iload_n hx hb dX10_areApart_1 rfl (lv_at hl 1 rfl) ?_
  refine lv_ishl hx hb dX10_areApart_2 ?_
  obtain ⟨x4_1, ex4_1, hf⟩ := sq_out hf
  refine lv_nmi ex4_1 ?_
  refine lv_istore (lv' := [(4, .int x4_1), (0, .ref (ad 0)), (1, .int x1), (2, .int x2), (3, .int x3)]) hx hb dX10_areApart_3 hl (by decide) rfl (fun ls hl => ?_)
  refine lv_iconst (v := 0) hx hb dX10_areApart_5 (by decide) ?_
  refine lv_istore (lv' := [(5, .int 0), (4, .int x4_1), (0, .ref (ad 0)), (1, .int x1), (2, .int x2), (3, .int x3)]) hx hb dX10_areApart_6 hl (by decide) rfl (fun ls hl => ?_)
  obtain ⟨y16, hlp17, hf⟩ := bi_out hf
  refine lp_X10_areApart_8_w C0 hj hR N x2 x3 f t y16 ?_ N x4_1 0 hlp17 H locs ls hP hS (lv_sub hl [2, 4, 5, 1, 0] rfl)
  intro H locs ls hP hS hl
  refine lv_iload hx hb dX10_areApart_122 (lv_at hl 1 rfl) ?_
  refine lv_iload_n hx hb dX10_areApart_124 rfl (lv_at hl 0 rfl) ?_
  refine lv_ishr hx hb dX10_areApart_125 ?_
  refine lv_iconst (v := 1) hx hb dX10_areApart_126 (by decide) ?_
  refine lv_iand hx hb dX10_areApart_127 ?_
  refine lv_if_ne (tgt := 135) hx hb dX10_areApart_128 (by decide) (fun c128 => ?_) (fun c128 => ?_)
  · have hf := itF hf c128
    refine lv_iconst (v := 0) hx hb dX10_areApart_135 (by decide) ?_
    obtain ⟨hz, hf⟩ := rz_out hf
    obtain rfl := Option.some.inj hf
    exact kr H locs ls 136 dX10_areApart_136 hz hP hS
  · have hf := itT hf c128
    refine lv_iconst (v := 1) hx hb dX10_areApart_131 (by decide) ?_
    refine lv_goto (tgt := 136) hx hb dX10_areApart_132 (by decide) ?_
    obtain ⟨hz, hf⟩ := rz_out hf
    obtain rfl := Option.some.inj hf
    exact kr H locs ls 136 dX10_areApart_136 hz hP hS
set_option maxHeartbeats 4000000 in
set_option maxRecDepth 100000 in
theorem c_X10_areApart (hj : jR ad) (l : Launch) (N : Nat) (x1 : Int32) (x2 : Int32) (x3 : Int32) (f : mM) (t : Int64) (r : Int32) (hf : q_X10_areApart N x1 x2 x3 f = some r) : Met l yX10_areApart wsX10_areApart ({ frames := 0, cells := 0, slots := 0, locals := 0 }) (va_Pc ([.ref (ad 0), .int x1, .int x2, .int x3]) (pre D cy (wR ad cy) (xR) f t)) (va_Qi (fun (r2 : Int32) (u : mM × Int64) => r2 = r ∧ u = (f, t)) (atW D (wR ad cy)) (aR ad)) 0 0 (aR ad) := by
  refine Met.ofW (cc := cX10_areApart) (maxL := 8) (ret := (some .boolean)) (by decide) rfl ?_
  intro p e s m args below meth c s₁ B hml hv
  obtain ⟨rfl, hP, hK, hX0⟩ := hv
  have hl := lv_entry ([.ref (ad 0), .int x1, .int x2, .int x3]) (n := 8) (Nat.le_of_ble_eq_true rfl)
  rw [lg_entry_eq]
  generalize (lg_sl ([.ref (ad 0), .int x1, .int x2, .int x3]) ++ List.replicate (8 - (lg_sl ([.ref (ad 0), .int x1, .int x2, .int x3])).length) Slot.unset).toArray = ls at hl ⊢
  have hlocks := B.notSynchronized
  exact b_X10_areApart ⟨B.exec, B.bytes, B.returns, hml, findClass_of_methodNamed B.named, atoms_spec (ws := wsX10_areApart) B.pre, hlocks, hK, hX0⟩ hj ⟨Nat.le_refl _, Nat.le_refl _⟩ N x1 x2 x3 f t r hf (fun H locs ls pc hd hz hP hS => W.zret B.exec B.bytes B.returns hz (fun t2 ht hW => ⟨⟨r, (f, t), rfl, ⟨rfl, rfl⟩, by show va_P D vwCl _ t2.heap; rw [ht]; exact hP⟩, hS.F ht⟩) hS.2.2 hd) s.heap [] ls hP va_S.rf hl
def lp_X10_oftenBy_5 (N : Nat) (x1 : Int32) (x2 : Int32) (f : mM) : Nat → Int32 → Int32 → Option (Int32)
  | 0, _, _ => none
  | n + 1, x3, x4 => if (f 0 16) ≤ x4 then some x3 else sq (fun (v1 : Int32) => sq (x3 + v1) (fun x3_3 => sq (x4 + 1) (fun x4_4 => lp_X10_oftenBy_5 N x1 x2 f n x3_3 x4_4))) (fun k2 => if ((x1 >>> (x4 &&& 31)) &&& 1) = 1 then gi x4 50 (nz x2 (k2 ((f 8 (Int32.toNatClampNeg x4)) / x2))) else k2 0)
theorem lp_X10_oftenBy_5_s (N : Nat) (x1 : Int32) (x2 : Int32) (f : mM) (n : Nat) (x3 : Int32) (x4 : Int32) : lp_X10_oftenBy_5 N x1 x2 f (n + 1) x3 x4 = (if (f 0 16) ≤ x4 then some x3 else sq (fun (v1 : Int32) => sq (x3 + v1) (fun x3_3 => sq (x4 + 1) (fun x4_4 => lp_X10_oftenBy_5 N x1 x2 f n x3_3 x4_4))) (fun k2 => if ((x1 >>> (x4 &&& 31)) &&& 1) = 1 then gi x4 50 (nz x2 (k2 ((f 8 (Int32.toNatClampNeg x4)) / x2))) else k2 0)) := rfl
set_option maxHeartbeats 4000000 in
set_option maxRecDepth 100000 in
theorem lp_X10_oftenBy_5_w (C0 : cX p s m args meth c cX10_oftenBy 5 (some .int) RX10 wsX10_oftenBy D cy (xR)) (hj : jR ad) (hR : 0 ≤ R.frames ∧ 0 ≤ R.locals) (N : Nat) (x1 : Int32) (x2 : Int32) (f : mM) (t : Int64) (r3 : Int32) (kx46 : ∀ (H : Heap) (locs : List Loc) (ls : Array Slot), va_P D vwCl (wR ad cy f t) H → va_S (aR ad) s.heap H locs → lv_has ls 5 [(3, .int r3)] → W p l e R s m args below meth c H locs 0 0 Q (F0 m 46 ls [])) : ∀ (n : Nat) (x3 : Int32) (x4 : Int32), lp_X10_oftenBy_5 N x1 x2 f n x3 x4 = some r3 → ∀ (H : Heap) (locs : List Loc) (ls : Array Slot), va_P D vwCl (wR ad cy f t) H → va_S (aR ad) s.heap H locs → lv_has ls 5 [(0, .ref (ad 0)), (1, .int x1), (2, .int x2), (3, .int x3), (4, .int x4)] → W p l e R s m args below meth c H locs 0 0 Q (F0 m 5 ls []) := by
  obtain ⟨hx, hb, hr, hml, hown, hts, hlocks, hK, hX0⟩ := id C0
  have lk148 := hts (.fieldLink RX10 148 "PlankNineModel" "planks" "I") (List.mem_of_getElem? (i := 1) rfl)
  have hiX10 : ∀ w ∈ u_ws RX10 TX10 34, w ∈ wsX10_oftenBy := fun w h => List.mem_cons_of_mem _ (List.mem_append_right _ h)
  have lk31 := hts (.fieldLink RX10 31 "PlankNineModel" "s" "[I") (List.mem_of_getElem? (i := 2) rfl)
  intro n
  induction n with
  | zero =>
    intro x3 x4 hf
    exact no_none hf
  | succ n ih =>
    intro x3 x4 hf H locs ls hP hS hl
    have hf := (lp_X10_oftenBy_5_s N x1 x2 f n x3 x4).symm.trans hf
    refine lv_iload hx hb dX10_oftenBy_5 (lv_at hl 4 rfl) ?_
    refine lv_aload_n hx hb dX10_oftenBy_7 rfl (lv_at hl 0 rfl) ?_
    refine va_get (D := D) (ci := 10) (v := .int (f 0 16)) (C := RX10) (T := TX10) (N := 34) hx hb hts hiX10 hown hK hP 0 rfl rfl 16 (by decide) lk148 (fun _ h9 => h9) rfl dX10_oftenBy_8 ?_
    refine lv_icmp_ge (tgt := 46) hx hb dX10_oftenBy_11 (by decide) (fun c11 => ?_) (fun c11 => ?_)
    · have hf := itT hf c11
      obtain rfl := Option.some.inj hf
      exact kx46 H locs ls hP hS (lv_sub hl [3] rfl)
    · have hf := itF hf c11
      refine lv_iload_n hx hb dX10_oftenBy_14 rfl (lv_at hl 3 rfl) ?_
      refine lv_iload_n hx hb dX10_oftenBy_15 rfl (lv_at hl 1 rfl) ?_
      refine lv_iload hx hb dX10_oftenBy_16 (lv_at hl 4 rfl) ?_
      refine lv_ishr hx hb dX10_oftenBy_18 ?_
      refine lv_iconst (v := 1) hx hb dX10_oftenBy_19 (by decide) ?_
      refine lv_iand hx hb dX10_oftenBy_20 ?_
      refine lv_iconst (v := 1) hx hb dX10_oftenBy_21 (by decide) ?_
      obtain ⟨k2, ek2, hf⟩ := sq_out hf
      have hk2 : ∀ (v1 : Int32), k2 v1 = some r3 → ∀ (H : Heap) (locs : List Loc) (ls : Array Slot), va_P D vwCl (wR ad cy f t) H → va_S (aR ad) s.heap H locs → lv_has ls 5 [(0, .ref (ad 0)), (1, .int x1), (2, .int x2), (4, .int x4)] → W p l e R s m args below meth c H locs 0 0 Q (F0 m 38 ls [.int v1, .int x3]) := by
        intro v1 hf H locs ls hP hS hl
        have hf := sk1 ek2 v1 hf
        refine lv_iadd hx hb dX10_oftenBy_38 ?_
        obtain ⟨x3_3, ex3_3, hf⟩ := sq_out hf
        refine lv_nmi ex3_3 ?_
        refine lv_istore_n (lv' := [(3, .int x3_3), (0, .ref (ad 0)), (1, .int x1), (2, .int x2), (4, .int x4)]) hx hb dX10_oftenBy_39 rfl hl (by decide) rfl (fun ls hl => ?_)
        obtain ⟨x4_4, ex4_4, hf⟩ := sq_out hf
        refine lv_iinc (v := x4_4) (lv' := [(4, .int x4_4), (3, .int x3_3), (0, .ref (ad 0)), (1, .int x1), (2, .int x2)]) hx hb dX10_oftenBy_40 hl (k := 4) rfl (by rw [ex4_4]; rfl) (by decide) rfl (fun ls hl => ?_)
        refine lv_goto (tgt := 5) hx hb dX10_oftenBy_43 (by decide) ?_
        exact ih x3_3 x4_4 hf H locs ls hP hS (lv_sub hl [2, 3, 4, 1, 0] rfl)
      refine lv_icmp_ne (tgt := 37) hx hb dX10_oftenBy_22 (by decide) (fun c22 => ?_) (fun c22 => ?_)
      · have hf := itF hf c22
        refine lv_iconst (v := 0) hx hb dX10_oftenBy_37 (by decide) ?_
        exact hk2 0 hf H locs ls hP hS (lv_sub hl [0, 1, 2, 4] rfl)
      · have hf := itT hf c22
        refine lv_aload_n hx hb dX10_oftenBy_25 rfl (lv_at hl 0 rfl) ?_
        refine va_get (D := D) (ci := 10) (v := .ref (ad 8)) (C := RX10) (T := TX10) (N := 34) hx hb hts hiX10 hown hK hP 0 rfl rfl 23 (by decide) lk31 (fun _ h9 => h9) rfl dX10_oftenBy_26 ?_
        refine lv_iload hx hb dX10_oftenBy_29 (lv_at hl 4 rfl) ?_
        obtain ⟨hin5, hf⟩ := gi_out hf
        refine va_iald hx hb hK hP 8 1 rfl rfl hin5 dX10_oftenBy_31 ?_
        refine lv_iload_n hx hb dX10_oftenBy_32 rfl (lv_at hl 2 rfl) ?_
        obtain ⟨z6, hf⟩ := nz_out hf
        refine lv_idiv hx hb dX10_oftenBy_33 z6 ?_
        refine lv_goto (tgt := 38) hx hb dX10_oftenBy_34 (by decide) ?_
        exact hk2 _ hf H locs ls hP hS (lv_sub hl [0, 1, 2, 4] rfl)
def q_X10_oftenBy (N : Nat) (x1 : Int32) (x2 : Int32) (f : mM) : Option (Int32) := bi (lp_X10_oftenBy_5 N x1 x2 f N 0 0) (fun y7 => some y7)
set_option maxHeartbeats 4000000 in
set_option maxRecDepth 100000 in
theorem b_X10_oftenBy (C0 : cX p s m args meth c cX10_oftenBy 5 (some .int) RX10 wsX10_oftenBy D cy (xR)) (hj : jR ad) (hR : 0 ≤ R.frames ∧ 0 ≤ R.locals) (N : Nat) (x1 : Int32) (x2 : Int32) (f : mM) (t : Int64) (r : Int32) (hf : q_X10_oftenBy N x1 x2 f = some r) (kr : ∀ (H : Heap) (locs : List Loc) (ls : Array Slot) (pc : Nat), decode cX10_oftenBy pc = .ok (.ireturn, 1) → va_P D vwCl (wR ad cy f t) H → va_S (aR ad) s.heap H locs → W p l e R s m args below meth c H locs 0 0 Q (F0 m pc ls [.int r])) (H : Heap) (locs : List Loc) (ls : Array Slot) (hP : va_P D vwCl (wR ad cy f t) H) (hS : va_S (aR ad) s.heap H locs) (hl : lv_has ls 5 [(0, .ref (ad 0)), (1, .int x1), (2, .int x2)]) : W p l e R s m args below meth c H locs 0 0 Q (F0 m 0 ls []) := by
  obtain ⟨hx, hb, hr, hml, hown, hts, hlocks, hK, hX0⟩ := id C0
  unfold q_X10_oftenBy at hf
  refine lv_iconst (v := 0) hx hb dX10_oftenBy_0 (by decide) ?_
  refine lv_istore_n (lv' := [(3, .int 0), (0, .ref (ad 0)), (1, .int x1), (2, .int x2)]) hx hb dX10_oftenBy_1 rfl hl (by decide) rfl (fun ls hl => ?_)
  refine lv_iconst (v := 0) hx hb dX10_oftenBy_2 (by decide) ?_
  refine lv_istore (lv' := [(4, .int 0), (3, .int 0), (0, .ref (ad 0)), (1, .int x1), (2, .int x2)]) hx hb dX10_oftenBy_3 hl (by decide) rfl (fun ls hl => ?_)
  obtain ⟨y7, hlp8, hf⟩ := bi_out hf
  refine lp_X10_oftenBy_5_w C0 hj hR N x1 x2 f t y7 ?_ N 0 0 hlp8 H locs ls hP hS (lv_sub hl [2, 3, 4, 1, 0] rfl)
  intro H locs ls hP hS hl
  refine lv_iload_n hx hb dX10_oftenBy_46 rfl (lv_at hl 0 rfl) ?_
  obtain rfl := Option.some.inj hf
  exact kr H locs ls 47 dX10_oftenBy_47 hP hS
set_option maxHeartbeats 4000000 in
set_option maxRecDepth 100000 in
theorem c_X10_oftenBy (hj : jR ad) (l : Launch) (N : Nat) (x1 : Int32) (x2 : Int32) (f : mM) (t : Int64) (r : Int32) (hf : q_X10_oftenBy N x1 x2 f = some r) : Met l yX10_oftenBy wsX10_oftenBy ({ frames := 0, cells := 0, slots := 0, locals := 0 }) (va_Pc ([.ref (ad 0), .int x1, .int x2]) (pre D cy (wR ad cy) (xR) f t)) (va_Qi (fun (r2 : Int32) (u : mM × Int64) => r2 = r ∧ u = (f, t)) (atW D (wR ad cy)) (aR ad)) 0 0 (aR ad) := by
  refine Met.ofW (cc := cX10_oftenBy) (maxL := 5) (ret := (some .int)) (by decide) rfl ?_
  intro p e s m args below meth c s₁ B hml hv
  obtain ⟨rfl, hP, hK, hX0⟩ := hv
  have hl := lv_entry ([.ref (ad 0), .int x1, .int x2]) (n := 5) (Nat.le_of_ble_eq_true rfl)
  rw [lg_entry_eq]
  generalize (lg_sl ([.ref (ad 0), .int x1, .int x2]) ++ List.replicate (5 - (lg_sl ([.ref (ad 0), .int x1, .int x2])).length) Slot.unset).toArray = ls at hl ⊢
  have hlocks := B.notSynchronized
  exact b_X10_oftenBy ⟨B.exec, B.bytes, B.returns, hml, findClass_of_methodNamed B.named, atoms_spec (ws := wsX10_oftenBy) B.pre, hlocks, hK, hX0⟩ hj ⟨Nat.le_refl _, Nat.le_refl _⟩ N x1 x2 f t r hf (fun H locs ls pc hd hP hS => W.iret B.exec B.bytes B.returns (fun t2 ht hW => ⟨⟨r, (f, t), rfl, ⟨rfl, rfl⟩, by show va_P D vwCl _ t2.heap; rw [ht]; exact hP⟩, hS.F ht⟩) hS.2.2 hd) s.heap [] ls hP va_S.rf hl
def lp_X10_cutOf_7 (N : Nat) (x1 : Int32) (x2 : Int32) (x3 : Int32) (f : mM) : Nat → Int32 → Int32 → Option (Int32)
  | 0, _, _ => none
  | n + 1, x4, x5 => if (1 <<< ((f 0 16) &&& 31)) ≤ x5 then some x4 else sq (fun (v1 : Int32) => sq (fun (_ : Unit) => sq (x5 + 1) (fun x5_4 => lp_X10_cutOf_7 N x1 x2 x3 f n x4 x5_4)) (fun k3 => if v1 = 0 then k3 () else bi (q_X10_areApart N x2 x3 x5 f) (fun y5 => if y5 = 0 then k3 () else sq (x5 + 1) (fun x5_7 => lp_X10_cutOf_7 N x1 x2 x3 f n x5 x5_7)))) (fun k2 => if x4 = (-9) then k2 1 else bi (q_X10_oftenBy N x5 x1 f) (fun y8 => bi (q_X10_oftenBy N x4 x1 f) (fun y10 => if y10 ≤ y8 then k2 0 else k2 1)))
theorem lp_X10_cutOf_7_s (N : Nat) (x1 : Int32) (x2 : Int32) (x3 : Int32) (f : mM) (n : Nat) (x4 : Int32) (x5 : Int32) : lp_X10_cutOf_7 N x1 x2 x3 f (n + 1) x4 x5 = (if (1 <<< ((f 0 16) &&& 31)) ≤ x5 then some x4 else sq (fun (v1 : Int32) => sq (fun (_ : Unit) => sq (x5 + 1) (fun x5_4 => lp_X10_cutOf_7 N x1 x2 x3 f n x4 x5_4)) (fun k3 => if v1 = 0 then k3 () else bi (q_X10_areApart N x2 x3 x5 f) (fun y5 => if y5 = 0 then k3 () else sq (x5 + 1) (fun x5_7 => lp_X10_cutOf_7 N x1 x2 x3 f n x5 x5_7)))) (fun k2 => if x4 = (-9) then k2 1 else bi (q_X10_oftenBy N x5 x1 f) (fun y8 => bi (q_X10_oftenBy N x4 x1 f) (fun y10 => if y10 ≤ y8 then k2 0 else k2 1)))) := rfl
set_option maxHeartbeats 4000000 in
set_option maxRecDepth 100000 in
theorem lp_X10_cutOf_7_w (C0 : cX p s m args meth c cX10_cutOf 7 (some .int) RX10 wsX10_cutOf D cy (xR)) (hj : jR ad) (hR : 1 ≤ R.frames ∧ 27 ≤ R.locals) (N : Nat) (x1 : Int32) (x2 : Int32) (x3 : Int32) (f : mM) (t : Int64) (r4 : Int32) (kx80 : ∀ (H : Heap) (locs : List Loc) (ls : Array Slot), va_P D vwCl (wR ad cy f t) H → va_S (aR ad) s.heap H locs → lv_has ls 7 [(4, .int r4)] → W p l e R s m args below meth c H locs 0 0 Q (F0 m 80 ls [])) : ∀ (n : Nat) (x4 : Int32) (x5 : Int32), lp_X10_cutOf_7 N x1 x2 x3 f n x4 x5 = some r4 → ∀ (H : Heap) (locs : List Loc) (ls : Array Slot), va_P D vwCl (wR ad cy f t) H → va_S (aR ad) s.heap H locs → lv_has ls 7 [(0, .ref (ad 0)), (1, .int x1), (2, .int x2), (3, .int x3), (4, .int x4), (5, .int x5)] → W p l e R s m args below meth c H locs 0 0 Q (F0 m 7 ls []) := by
  obtain ⟨hx, hb, hr, hml, hown, hts, hlocks, hK, hX0⟩ := id C0
  have lk148 := hts (.fieldLink RX10 148 "PlankNineModel" "planks" "I") (List.mem_of_getElem? (i := 1) rfl)
  have hiX10 : ∀ w ∈ u_ws RX10 TX10 34, w ∈ wsX10_cutOf := fun w h => List.mem_cons_of_mem _ (List.mem_append_right _ h)
  intro n
  induction n with
  | zero =>
    intro x4 x5 hf
    exact no_none hf
  | succ n ih =>
    intro x4 x5 hf H locs ls hP hS hl
    have hf := (lp_X10_cutOf_7_s N x1 x2 x3 f n x4 x5).symm.trans hf
    refine lv_iload hx hb dX10_cutOf_7 (lv_at hl 5 rfl) ?_
    refine lv_iconst (v := 1) hx hb dX10_cutOf_9 (by decide) ?_
    refine lv_aload_n hx hb dX10_cutOf_10 rfl (lv_at hl 0 rfl) ?_
    refine va_get (D := D) (ci := 10) (v := .int (f 0 16)) (C := RX10) (T := TX10) (N := 34) hx hb hts hiX10 hown hK hP 0 rfl rfl 16 (by decide) lk148 (fun _ h9 => h9) rfl dX10_cutOf_11 ?_
    refine lv_ishl hx hb dX10_cutOf_14 ?_
    refine lv_icmp_ge (tgt := 80) hx hb dX10_cutOf_15 (by decide) (fun c15 => ?_) (fun c15 => ?_)
    · have hf := itT hf c15
      obtain rfl := Option.some.inj hf
      exact kx80 H locs ls hP hS (lv_sub hl [4] rfl)
    · have hf := itF hf c15
      refine lv_iload hx hb dX10_cutOf_18 (lv_at hl 4 rfl) ?_
      refine lv_bipush (v := (-9)) hx hb dX10_cutOf_20 (by decide) ?_
      obtain ⟨k2, ek2, hf⟩ := sq_out hf
      have hk2 : ∀ (v1 : Int32), k2 v1 = some r4 → ∀ (H : Heap) (locs : List Loc) (ls : Array Slot), va_P D vwCl (wR ad cy f t) H → va_S (aR ad) s.heap H locs → lv_has ls 7 [(0, .ref (ad 0)), (1, .int x1), (2, .int x2), (3, .int x3), (4, .int x4), (5, .int x5)] → W p l e R s m args below meth c H locs 0 0 Q (F0 m 47 ls [.int v1]) := by
        intro v1 hf H locs ls hP hS hl
        have hf := sk1 ek2 v1 hf
        refine lv_istore (lv' := [(6, .int v1), (0, .ref (ad 0)), (1, .int x1), (2, .int x2), (3, .int x3), (4, .int x4), (5, .int x5)]) hx hb dX10_cutOf_47 hl (by decide) rfl (fun ls hl => ?_)
        refine lv_iload hx hb dX10_cutOf_49 (lv_at hl 0 rfl) ?_
        obtain ⟨k3, ek3, hf⟩ := sq_out hf
        have hk3 : k3 () = some r4 → ∀ (H : Heap) (locs : List Loc) (ls : Array Slot), va_P D vwCl (wR ad cy f t) H → va_S (aR ad) s.heap H locs → lv_has ls 7 [(0, .ref (ad 0)), (1, .int x1), (2, .int x2), (3, .int x3), (4, .int x4), (5, .int x5)] → W p l e R s m args below meth c H locs 0 0 Q (F0 m 70 ls []) := by
          intro hf H locs ls hP hS hl
          have hf := sk1 ek3 () hf
          refine lv_iload hx hb dX10_cutOf_70 (lv_at hl 4 rfl) ?_
          refine lv_istore (lv' := [(4, .int x4), (0, .ref (ad 0)), (1, .int x1), (2, .int x2), (3, .int x3), (5, .int x5)]) hx hb dX10_cutOf_72 hl (by decide) rfl (fun ls hl => ?_)
          obtain ⟨x5_4, ex5_4, hf⟩ := sq_out hf
          refine lv_iinc (v := x5_4) (lv' := [(5, .int x5_4), (4, .int x4), (0, .ref (ad 0)), (1, .int x1), (2, .int x2), (3, .int x3)]) hx hb dX10_cutOf_74 hl (k := 5) rfl (by rw [ex5_4]; rfl) (by decide) rfl (fun ls hl => ?_)
          refine lv_goto (tgt := 7) hx hb dX10_cutOf_77 (by decide) ?_
          exact ih x4 x5_4 hf H locs ls hP hS (lv_sub hl [2, 3, 4, 5, 1, 0] rfl)
        refine lv_if_eq (tgt := 70) hx hb dX10_cutOf_51 (by decide) (fun c51 => ?_) (fun c51 => ?_)
        · have hf := itT hf c51
          exact hk3 hf H locs ls hP hS (lv_sub hl [1, 2, 3, 4, 5, 6] rfl)
        · have hf := itF hf c51
          refine lv_aload_n hx hb dX10_cutOf_54 rfl (lv_at hl 1 rfl) ?_
          refine lv_iload_n hx hb dX10_cutOf_55 rfl (lv_at hl 3 rfl) ?_
          refine lv_iload_n hx hb dX10_cutOf_56 rfl (lv_at hl 4 rfl) ?_
          refine lv_iload hx hb dX10_cutOf_57 (lv_at hl 6 rfl) ?_
          obtain ⟨y5, hq6, hf⟩ := bi_out hf
          refine cw_vi (As := [.int x2, .int x3, .int x5]) (rest := []) ⟨hx, hb, hml, hown, hts⟩ xR_S hK hX0 hS hP (c_X10_areApart hj l N x2 x3 x5 f t y5 hq6) (cwV 3 hts gX10_cutOf_X10_areApart rfl rfl rfl (by decide +kernel) ⟨Nat.le_trans (Nat.le_of_ble_eq_true rfl) hR.1, Nat.le_trans (Nat.le_of_ble_eq_true rfl) hR.2⟩) (va_recv hK hP (ci := 10) (q0 := 0) rfl rfl) rfl hl.1 rfl (Nat.le_of_ble_eq_true rfl) ⟨Nat.zero_le _, Nat.zero_le _⟩ dX10_cutOf_59 (fun H locs hP hS => ?_)
          refine lv_if_eq (tgt := 70) hx hb dX10_cutOf_62 (by decide) (fun c62 => ?_) (fun c62 => ?_)
          · have hf := itT hf c62
            exact hk3 hf H locs ls hP hS (lv_sub hl [1, 2, 3, 4, 5, 6] rfl)
          · have hf := itF hf c62
            refine lv_iload hx hb dX10_cutOf_65 (lv_at hl 6 rfl) ?_
            refine lv_goto (tgt := 72) hx hb dX10_cutOf_67 (by decide) ?_
            refine lv_istore (lv' := [(4, .int x5), (6, .int v1), (0, .ref (ad 0)), (1, .int x1), (2, .int x2), (3, .int x3), (5, .int x5)]) hx hb dX10_cutOf_72 hl (by decide) rfl (fun ls hl => ?_)
            obtain ⟨x5_7, ex5_7, hf⟩ := sq_out hf
            refine lv_iinc (v := x5_7) (lv' := [(5, .int x5_7), (4, .int x5), (6, .int v1), (0, .ref (ad 0)), (1, .int x1), (2, .int x2), (3, .int x3)]) hx hb dX10_cutOf_74 hl (k := 6) rfl (by rw [ex5_7]; rfl) (by decide) rfl (fun ls hl => ?_)
            refine lv_goto (tgt := 7) hx hb dX10_cutOf_77 (by decide) ?_
            exact ih x5 x5_7 hf H locs ls hP hS (lv_sub hl [3, 4, 5, 6, 1, 0] rfl)
      refine lv_icmp_eq (tgt := 42) hx hb dX10_cutOf_22 (by decide) (fun c22 => ?_) (fun c22 => ?_)
      · have hf := itT hf c22
        refine lv_iconst (v := 1) hx hb dX10_cutOf_42 (by decide) ?_
        refine lv_goto (tgt := 47) hx hb dX10_cutOf_43 (by decide) ?_
        exact hk2 1 hf H locs ls hP hS (lv_sub hl [0, 1, 2, 3, 4, 5] rfl)
      · have hf := itF hf c22
        refine lv_aload_n hx hb dX10_cutOf_25 rfl (lv_at hl 0 rfl) ?_
        refine lv_iload hx hb dX10_cutOf_26 (lv_at hl 5 rfl) ?_
        refine lv_iload_n hx hb dX10_cutOf_28 rfl (lv_at hl 1 rfl) ?_
        obtain ⟨y8, hq9, hf⟩ := bi_out hf
        refine cw_vi (As := [.int x5, .int x1]) (rest := []) ⟨hx, hb, hml, hown, hts⟩ xR_S hK hX0 hS hP (c_X10_oftenBy hj l N x5 x1 f t y8 hq9) (cwV 2 hts gX10_cutOf_X10_oftenBy rfl rfl rfl (by decide +kernel) ⟨Nat.le_trans (Nat.le_of_ble_eq_true rfl) hR.1, Nat.le_trans (Nat.le_of_ble_eq_true rfl) hR.2⟩) (va_recv hK hP (ci := 10) (q0 := 0) rfl rfl) rfl hl.1 rfl (Nat.le_of_ble_eq_true rfl) ⟨Nat.zero_le _, Nat.zero_le _⟩ dX10_cutOf_29 (fun H locs hP hS => ?_)
        refine lv_aload_n hx hb dX10_cutOf_32 rfl (lv_at hl 0 rfl) ?_
        refine lv_iload hx hb dX10_cutOf_33 (lv_at hl 4 rfl) ?_
        refine lv_iload_n hx hb dX10_cutOf_35 rfl (lv_at hl 1 rfl) ?_
        obtain ⟨y10, hq11, hf⟩ := bi_out hf
        refine cw_vi (As := [.int x4, .int x1]) (rest := [.int y8]) ⟨hx, hb, hml, hown, hts⟩ xR_S hK hX0 hS hP (c_X10_oftenBy hj l N x4 x1 f t y10 hq11) (cwV 2 hts gX10_cutOf_X10_oftenBy rfl rfl rfl (by decide +kernel) ⟨Nat.le_trans (Nat.le_of_ble_eq_true rfl) hR.1, Nat.le_trans (Nat.le_of_ble_eq_true rfl) hR.2⟩) (va_recv hK hP (ci := 10) (q0 := 0) rfl rfl) rfl hl.1 rfl (Nat.le_of_ble_eq_true rfl) ⟨Nat.zero_le _, Nat.zero_le _⟩ dX10_cutOf_36 (fun H locs hP hS => ?_)
        refine lv_icmp_ge (tgt := 46) hx hb dX10_cutOf_39 (by decide) (fun c39 => ?_) (fun c39 => ?_)
        · have hf := itT hf c39
          refine lv_iconst (v := 0) hx hb dX10_cutOf_46 (by decide) ?_
          exact hk2 0 hf H locs ls hP hS (lv_sub hl [0, 1, 2, 3, 4, 5] rfl)
        · have hf := itF hf c39
          refine lv_iconst (v := 1) hx hb dX10_cutOf_42 (by decide) ?_
          refine lv_goto (tgt := 47) hx hb dX10_cutOf_43 (by decide) ?_
          exact hk2 1 hf H locs ls hP hS (lv_sub hl [0, 1, 2, 3, 4, 5] rfl)
def q_X10_cutOf (N : Nat) (x1 : Int32) (x2 : Int32) (x3 : Int32) (f : mM) : Option (Int32) := bi (lp_X10_cutOf_7 N x1 x2 x3 f N (-9) 0) (fun y12 => some y12)
set_option maxHeartbeats 4000000 in
set_option maxRecDepth 100000 in
theorem b_X10_cutOf (C0 : cX p s m args meth c cX10_cutOf 7 (some .int) RX10 wsX10_cutOf D cy (xR)) (hj : jR ad) (hR : 1 ≤ R.frames ∧ 27 ≤ R.locals) (N : Nat) (x1 : Int32) (x2 : Int32) (x3 : Int32) (f : mM) (t : Int64) (r : Int32) (hf : q_X10_cutOf N x1 x2 x3 f = some r) (kr : ∀ (H : Heap) (locs : List Loc) (ls : Array Slot) (pc : Nat), decode cX10_cutOf pc = .ok (.ireturn, 1) → va_P D vwCl (wR ad cy f t) H → va_S (aR ad) s.heap H locs → W p l e R s m args below meth c H locs 0 0 Q (F0 m pc ls [.int r])) (H : Heap) (locs : List Loc) (ls : Array Slot) (hP : va_P D vwCl (wR ad cy f t) H) (hS : va_S (aR ad) s.heap H locs) (hl : lv_has ls 7 [(0, .ref (ad 0)), (1, .int x1), (2, .int x2), (3, .int x3)]) : W p l e R s m args below meth c H locs 0 0 Q (F0 m 0 ls []) := by
  obtain ⟨hx, hb, hr, hml, hown, hts, hlocks, hK, hX0⟩ := id C0
  unfold q_X10_cutOf at hf
  refine lv_bipush (v := (-9)) hx hb dX10_cutOf_0 (by decide) ?_
  refine lv_istore (lv' := [(4, .int (-9)), (0, .ref (ad 0)), (1, .int x1), (2, .int x2), (3, .int x3)]) hx hb dX10_cutOf_2 hl (by decide) rfl (fun ls hl => ?_)
  refine lv_iconst (v := 0) hx hb dX10_cutOf_4 (by decide) ?_
  refine lv_istore (lv' := [(5, .int 0), (4, .int (-9)), (0, .ref (ad 0)), (1, .int x1), (2, .int x2), (3, .int x3)]) hx hb dX10_cutOf_5 hl (by decide) rfl (fun ls hl => ?_)
  obtain ⟨y12, hlp13, hf⟩ := bi_out hf
  refine lp_X10_cutOf_7_w C0 hj hR N x1 x2 x3 f t y12 ?_ N (-9) 0 hlp13 H locs ls hP hS (lv_sub hl [2, 3, 4, 5, 1, 0] rfl)
  intro H locs ls hP hS hl
  refine lv_iload hx hb dX10_cutOf_80 (lv_at hl 0 rfl) ?_
  obtain rfl := Option.some.inj hf
  exact kr H locs ls 82 dX10_cutOf_82 hP hS
set_option maxHeartbeats 4000000 in
set_option maxRecDepth 100000 in
theorem c_X10_cutOf (hj : jR ad) (l : Launch) (N : Nat) (x1 : Int32) (x2 : Int32) (x3 : Int32) (f : mM) (t : Int64) (r : Int32) (hf : q_X10_cutOf N x1 x2 x3 f = some r) : Met l yX10_cutOf wsX10_cutOf ({ frames := 1, cells := 0, slots := 0, locals := 27 }) (va_Pc ([.ref (ad 0), .int x1, .int x2, .int x3]) (pre D cy (wR ad cy) (xR) f t)) (va_Qi (fun (r2 : Int32) (u : mM × Int64) => r2 = r ∧ u = (f, t)) (atW D (wR ad cy)) (aR ad)) 0 0 (aR ad) := by
  refine Met.ofW (cc := cX10_cutOf) (maxL := 7) (ret := (some .int)) (by decide) rfl ?_
  intro p e s m args below meth c s₁ B hml hv
  obtain ⟨rfl, hP, hK, hX0⟩ := hv
  have hl := lv_entry ([.ref (ad 0), .int x1, .int x2, .int x3]) (n := 7) (Nat.le_of_ble_eq_true rfl)
  rw [lg_entry_eq]
  generalize (lg_sl ([.ref (ad 0), .int x1, .int x2, .int x3]) ++ List.replicate (7 - (lg_sl ([.ref (ad 0), .int x1, .int x2, .int x3])).length) Slot.unset).toArray = ls at hl ⊢
  have hlocks := B.notSynchronized
  exact b_X10_cutOf ⟨B.exec, B.bytes, B.returns, hml, findClass_of_methodNamed B.named, atoms_spec (ws := wsX10_cutOf) B.pre, hlocks, hK, hX0⟩ hj ⟨Nat.le_refl _, Nat.le_refl _⟩ N x1 x2 x3 f t r hf (fun H locs ls pc hd hP hS => W.iret B.exec B.bytes B.returns (fun t2 ht hW => ⟨⟨r, (f, t), rfl, ⟨rfl, rfl⟩, by show va_P D vwCl _ t2.heap; rw [ht]; exact hP⟩, hS.F ht⟩) hS.2.2 hd) s.heap [] ls hP va_S.rf hl
def q_X10_often (N : Nat) (x1 : Int32) (x2 : Int32) (x3 : Int32) (x4 : Int32) (f : mM) : Option (Int32 × mM) := sq (st2 f 0 0 0) (fun f1 => bi (q_X10_in x1 1 3) (fun y2 => if y2 = 0 then some ((-1), f1) else bi (q_X10_arePlaces x2 x3 f1) (fun y4 => if y4 = 0 then some ((-1), f1) else bi (q_X10_in x4 0 1) (fun y6 => if y6 = 0 then some ((-1), f1) else bi (q_X10_cutOf N x1 x2 x3 f1) (fun y8 => if x4 = 1 then some (y8, f1) else bi (q_X10_oftenBy N y8 x1 f1) (fun y10 => some (y10, f1)))))))
set_option maxHeartbeats 4000000 in
set_option maxRecDepth 100000 in
theorem b_X10_often (C0 : cX p s m args meth c cX10_often 6 (some .int) RX10 wsX10_often D cy (xR)) (hj : jR ad) (hR : 2 ≤ R.frames ∧ 53 ≤ R.locals) (N : Nat) (x1 : Int32) (x2 : Int32) (x3 : Int32) (x4 : Int32) (f : mM) (t : Int64) (r : Int32) (fR : mM) (hf : q_X10_often N x1 x2 x3 x4 f = some (r, fR)) (kr : ∀ (H : Heap) (locs : List Loc) (ls : Array Slot) (pc : Nat), decode cX10_often pc = .ok (.ireturn, 1) → va_P D vwCl (wR ad cy fR t) H → va_S (aR ad) s.heap H locs → W p l e R s m args below meth c H locs 0 0 Q (F0 m pc ls [.int r])) (H : Heap) (locs : List Loc) (ls : Array Slot) (hP : va_P D vwCl (wR ad cy f t) H) (hS : va_S (aR ad) s.heap H locs) (hl : lv_has ls 6 [(0, .ref (ad 0)), (1, .int x1), (2, .int x2), (3, .int x3), (4, .int x4)]) : W p l e R s m args below meth c H locs 0 0 Q (F0 m 0 ls []) := by
  obtain ⟨hx, hb, hr, hml, hown, hts, hlocks, hK, hX0⟩ := id C0
  have lk69 := hts (.fieldLink RX10 69 "PlankNineModel" "thrown" "I") (List.mem_of_getElem? (i := 1) rfl)
  have hiX10 : ∀ w ∈ u_ws RX10 TX10 34, w ∈ wsX10_often := fun w h => List.mem_cons_of_mem _ (List.mem_append_right _ h)
  unfold q_X10_often at hf
  refine lv_aload_n hx hb dX10_often_0 rfl (lv_at hl 0 rfl) ?_
  refine lv_iconst (v := 0) hx hb dX10_often_1 (by decide) ?_
  obtain ⟨f1, ef1, hf⟩ := sq_out hf
  refine va_put (D := D) (ci := 10) (v := .int 0) (ty := .int) (C := RX10) (T := TX10) (N := 34) hx hb hts hiX10 tyX10 tyX10_ok nmX10 hown hK hP (dR hj f t) hS 0 rfl rfl 0 (by decide) lk69 (fun _ h9 => h9) rfl (by decide +kernel) rfl rfl (Nat.le_of_ble_eq_true rfl) dX10_often_2 (fun H locs hP _ hS => ?_)
  have hP := sR_0_0 ef1 hP
  refine lv_iload_n hx hb dX10_often_5 rfl (lv_at hl 1 rfl) ?_
  refine lv_iconst (v := 1) hx hb dX10_often_6 (by decide) ?_
  refine lv_iconst (v := 3) hx hb dX10_often_7 (by decide) ?_
  obtain ⟨y2, hq3, hf⟩ := bi_out hf
  refine cw_si (As := [.int x1, .int 1, .int 3]) (rest := []) ⟨hx, hb, hml, hown, hts⟩ xR_S hK hX0 hS hP (c_X10_in hj l x1 1 3 f1 t y2 hq3) (va_cwS 3 hts gX10_often_X10_in rfl rfl rfl (by decide +kernel) ⟨Nat.le_trans (Nat.le_of_ble_eq_true rfl) hR.1, Nat.le_trans (Nat.le_of_ble_eq_true rfl) hR.2⟩) rfl hl.1 rfl (Nat.le_of_ble_eq_true rfl) ⟨Nat.zero_le _, Nat.zero_le _⟩ dX10_often_8 (fun H locs hP hS => ?_)
  refine lv_if_eq (tgt := 33) hx hb dX10_often_11 (by decide) (fun c11 => ?_) (fun c11 => ?_)
  · have hf := itT hf c11
    refine lv_iconst (v := (-1)) hx hb dX10_often_33 (by decide) ?_
    obtain ⟨rfl, rfl⟩ := Prod.mk.inj (Option.some.inj hf)
    exact kr H locs ls 34 dX10_often_34 hP hS
  · have hf := itF hf c11
    refine lv_aload_n hx hb dX10_often_14 rfl (lv_at hl 0 rfl) ?_
    refine lv_iload_n hx hb dX10_often_15 rfl (lv_at hl 2 rfl) ?_
    refine lv_iload_n hx hb dX10_often_16 rfl (lv_at hl 3 rfl) ?_
    obtain ⟨y4, hq5, hf⟩ := bi_out hf
    refine cw_vi (As := [.int x2, .int x3]) (rest := []) ⟨hx, hb, hml, hown, hts⟩ xR_S hK hX0 hS hP (c_X10_arePlaces hj l x2 x3 f1 t y4 hq5) (cwV 2 hts gX10_often_X10_arePlaces rfl rfl rfl (by decide +kernel) ⟨Nat.le_trans (Nat.le_of_ble_eq_true rfl) hR.1, Nat.le_trans (Nat.le_of_ble_eq_true rfl) hR.2⟩) (va_recv hK hP (ci := 10) (q0 := 0) rfl rfl) rfl hl.1 rfl (Nat.le_of_ble_eq_true rfl) ⟨Nat.zero_le _, Nat.zero_le _⟩ dX10_often_17 (fun H locs hP hS => ?_)
    refine lv_if_eq (tgt := 33) hx hb dX10_often_20 (by decide) (fun c20 => ?_) (fun c20 => ?_)
    · have hf := itT hf c20
      refine lv_iconst (v := (-1)) hx hb dX10_often_33 (by decide) ?_
      obtain ⟨rfl, rfl⟩ := Prod.mk.inj (Option.some.inj hf)
      exact kr H locs ls 34 dX10_often_34 hP hS
    · have hf := itF hf c20
      refine lv_iload hx hb dX10_often_23 (lv_at hl 4 rfl) ?_
      refine lv_iconst (v := 0) hx hb dX10_often_25 (by decide) ?_
      refine lv_iconst (v := 1) hx hb dX10_often_26 (by decide) ?_
      obtain ⟨y6, hq7, hf⟩ := bi_out hf
      refine cw_si (As := [.int x4, .int 0, .int 1]) (rest := []) ⟨hx, hb, hml, hown, hts⟩ xR_S hK hX0 hS hP (c_X10_in hj l x4 0 1 f1 t y6 hq7) (va_cwS 3 hts gX10_often_X10_in rfl rfl rfl (by decide +kernel) ⟨Nat.le_trans (Nat.le_of_ble_eq_true rfl) hR.1, Nat.le_trans (Nat.le_of_ble_eq_true rfl) hR.2⟩) rfl hl.1 rfl (Nat.le_of_ble_eq_true rfl) ⟨Nat.zero_le _, Nat.zero_le _⟩ dX10_often_27 (fun H locs hP hS => ?_)
      refine lv_if_ne (tgt := 35) hx hb dX10_often_30 (by decide) (fun c30 => ?_) (fun c30 => ?_)
      · have hf := itF hf c30
        refine lv_aload_n hx hb dX10_often_35 rfl (lv_at hl 0 rfl) ?_
        refine lv_iload_n hx hb dX10_often_36 rfl (lv_at hl 1 rfl) ?_
        refine lv_iload_n hx hb dX10_often_37 rfl (lv_at hl 2 rfl) ?_
        refine lv_iload_n hx hb dX10_often_38 rfl (lv_at hl 3 rfl) ?_
        obtain ⟨y8, hq9, hf⟩ := bi_out hf
        refine cw_vi (As := [.int x1, .int x2, .int x3]) (rest := []) ⟨hx, hb, hml, hown, hts⟩ xR_S hK hX0 hS hP (c_X10_cutOf hj l N x1 x2 x3 f1 t y8 hq9) (cwV 3 hts gX10_often_X10_cutOf rfl rfl rfl (by decide +kernel) ⟨Nat.le_trans (Nat.le_of_ble_eq_true rfl) hR.1, Nat.le_trans (Nat.le_of_ble_eq_true rfl) hR.2⟩) (va_recv hK hP (ci := 10) (q0 := 0) rfl rfl) rfl hl.1 rfl (Nat.le_of_ble_eq_true rfl) ⟨Nat.zero_le _, Nat.zero_le _⟩ dX10_often_39 (fun H locs hP hS => ?_)
        refine lv_istore (lv' := [(5, .int y8), (0, .ref (ad 0)), (1, .int x1), (2, .int x2), (3, .int x3), (4, .int x4)]) hx hb dX10_often_42 hl (by decide) rfl (fun ls hl => ?_)
        refine lv_iload hx hb dX10_often_44 (lv_at hl 5 rfl) ?_
        refine lv_iconst (v := 1) hx hb dX10_often_46 (by decide) ?_
        refine lv_icmp_ne (tgt := 55) hx hb dX10_often_47 (by decide) (fun c47 => ?_) (fun c47 => ?_)
        · have hf := itF hf c47
          refine lv_aload_n hx hb dX10_often_55 rfl (lv_at hl 1 rfl) ?_
          refine lv_iload hx hb dX10_often_56 (lv_at hl 0 rfl) ?_
          refine lv_iload_n hx hb dX10_often_58 rfl (lv_at hl 2 rfl) ?_
          obtain ⟨y10, hq11, hf⟩ := bi_out hf
          refine cw_vi (As := [.int y8, .int x1]) (rest := []) ⟨hx, hb, hml, hown, hts⟩ xR_S hK hX0 hS hP (c_X10_oftenBy hj l N y8 x1 f1 t y10 hq11) (cwV 2 hts gX10_often_X10_oftenBy rfl rfl rfl (by decide +kernel) ⟨Nat.le_trans (Nat.le_of_ble_eq_true rfl) hR.1, Nat.le_trans (Nat.le_of_ble_eq_true rfl) hR.2⟩) (va_recv hK hP (ci := 10) (q0 := 0) rfl rfl) rfl hl.1 rfl (Nat.le_of_ble_eq_true rfl) ⟨Nat.zero_le _, Nat.zero_le _⟩ dX10_often_59 (fun H locs hP hS => ?_)
          obtain ⟨rfl, rfl⟩ := Prod.mk.inj (Option.some.inj hf)
          exact kr H locs ls 62 dX10_often_62 hP hS
        · have hf := itT hf c47
          refine lv_iload hx hb dX10_often_50 (lv_at hl 0 rfl) ?_
          refine lv_goto (tgt := 62) hx hb dX10_often_52 (by decide) ?_
          obtain ⟨rfl, rfl⟩ := Prod.mk.inj (Option.some.inj hf)
          exact kr H locs ls 62 dX10_often_62 hP hS
      · have hf := itT hf c30
        refine lv_iconst (v := (-1)) hx hb dX10_often_33 (by decide) ?_
        obtain ⟨rfl, rfl⟩ := Prod.mk.inj (Option.some.inj hf)
        exact kr H locs ls 34 dX10_often_34 hP hS
set_option maxHeartbeats 4000000 in
set_option maxRecDepth 100000 in
theorem c_X10_often (hj : jR ad) (l : Launch) (N : Nat) (x1 : Int32) (x2 : Int32) (x3 : Int32) (x4 : Int32) (f : mM) (t : Int64) (r : Int32) (fR : mM) (hf : q_X10_often N x1 x2 x3 x4 f = some (r, fR)) : Met l yX10_often wsX10_often ({ frames := 2, cells := 0, slots := 0, locals := 53 }) (va_Pc ([.ref (ad 0), .int x1, .int x2, .int x3, .int x4]) (pre D cy (wR ad cy) (xR) f t)) (va_Qi (fun (r2 : Int32) (u : mM × Int64) => r2 = r ∧ u = (fR, t)) (atW D (wR ad cy)) (aR ad)) 0 0 (aR ad) := by
  refine Met.ofW (cc := cX10_often) (maxL := 6) (ret := (some .int)) (by decide) rfl ?_
  intro p e s m args below meth c s₁ B hml hv
  obtain ⟨rfl, hP, hK, hX0⟩ := hv
  have hl := lv_entry ([.ref (ad 0), .int x1, .int x2, .int x3, .int x4]) (n := 6) (Nat.le_of_ble_eq_true rfl)
  rw [lg_entry_eq]
  generalize (lg_sl ([.ref (ad 0), .int x1, .int x2, .int x3, .int x4]) ++ List.replicate (6 - (lg_sl ([.ref (ad 0), .int x1, .int x2, .int x3, .int x4])).length) Slot.unset).toArray = ls at hl ⊢
  have hlocks := B.notSynchronized
  exact b_X10_often ⟨B.exec, B.bytes, B.returns, hml, findClass_of_methodNamed B.named, atoms_spec (ws := wsX10_often) B.pre, hlocks, hK, hX0⟩ hj ⟨Nat.le_refl _, Nat.le_refl _⟩ N x1 x2 x3 x4 f t r fR hf (fun H locs ls pc hd hP hS => W.iret B.exec B.bytes B.returns (fun t2 ht hW => ⟨⟨r, (fR, t), rfl, ⟨rfl, rfl⟩, by show va_P D vwCl _ t2.heap; rw [ht]; exact hP⟩, hS.F ht⟩) hS.2.2 hd) s.heap [] ls hP va_S.rf hl
def lp_X10_better_61 (N : Nat) (x1 : Int32) (x2 : Int32) (x3 : Int32) (x4 : Int32) (x7 : Int32) : Nat → Int32 → Int32 → Int32 → mM → Option (Int32 × Int32 × mM)
  | 0, _, _, _, _ => none
  | n + 1, x5, x6, x8, f => if (f 0 16) ≤ x8 then some (x5, x6, f) else bi (q_X10_changes x7 x8 f) (fun f9 => bi (q_X10_cutOf N x1 x2 x3 f9) (fun y11 => bi (q_X10_oftenBy N y11 x1 f9) (fun y13 => bi (q_X10_changes x7 x8 f9) (fun f15 => sq (fun (v17 : Int32) => if v17 = ((10 * x7) + x8) then sq (x8 + 1) (fun x8_20 => lp_X10_better_61 N x1 x2 x3 x4 x7 n v17 y13 x8_20 f15) else sq (x8 + 1) (fun x8_19 => lp_X10_better_61 N x1 x2 x3 x4 x7 n v17 x6 x8_19 f15)) (fun k18 => sq (fun (_ : Unit) => k18 ((10 * x7) + x8)) (fun k21 => if x5 = (-9) then k21 () else if y13 ≤ x6 then k18 x5 else k21 ()))))))
theorem lp_X10_better_61_s (N : Nat) (x1 : Int32) (x2 : Int32) (x3 : Int32) (x4 : Int32) (x7 : Int32) (n : Nat) (x5 : Int32) (x6 : Int32) (x8 : Int32) (f : mM) : lp_X10_better_61 N x1 x2 x3 x4 x7 (n + 1) x5 x6 x8 f = (if (f 0 16) ≤ x8 then some (x5, x6, f) else bi (q_X10_changes x7 x8 f) (fun f9 => bi (q_X10_cutOf N x1 x2 x3 f9) (fun y11 => bi (q_X10_oftenBy N y11 x1 f9) (fun y13 => bi (q_X10_changes x7 x8 f9) (fun f15 => sq (fun (v17 : Int32) => if v17 = ((10 * x7) + x8) then sq (x8 + 1) (fun x8_20 => lp_X10_better_61 N x1 x2 x3 x4 x7 n v17 y13 x8_20 f15) else sq (x8 + 1) (fun x8_19 => lp_X10_better_61 N x1 x2 x3 x4 x7 n v17 x6 x8_19 f15)) (fun k18 => sq (fun (_ : Unit) => k18 ((10 * x7) + x8)) (fun k21 => if x5 = (-9) then k21 () else if y13 ≤ x6 then k18 x5 else k21 ()))))))) := rfl
set_option maxHeartbeats 4000000 in
set_option maxRecDepth 100000 in
theorem lp_X10_better_61_w (C0 : cX p s m args meth c cX10_better 10 (some .int) RX10 wsX10_better D cy (xR)) (hj : jR ad) (hR : 2 ≤ R.frames ∧ 53 ≤ R.locals) (N : Nat) (x1 : Int32) (x2 : Int32) (x3 : Int32) (x4 : Int32) (x7 : Int32) (t : Int64) (r5 : Int32) (r6 : Int32) (fR : mM) (kx157 : ∀ (H : Heap) (locs : List Loc) (ls : Array Slot), va_P D vwCl (wR ad cy fR t) H → va_S (aR ad) s.heap H locs → lv_has ls 10 [(0, .ref (ad 0)), (1, .int x1), (2, .int x2), (3, .int x3), (4, .int x4), (5, .int r5), (6, .int r6), (7, .int x7)] → W p l e R s m args below meth c H locs 0 0 Q (F0 m 157 ls [])) : ∀ (n : Nat) (x5 : Int32) (x6 : Int32) (x8 : Int32) (f : mM), lp_X10_better_61 N x1 x2 x3 x4 x7 n x5 x6 x8 f = some (r5, r6, fR) → ∀ (H : Heap) (locs : List Loc) (ls : Array Slot), va_P D vwCl (wR ad cy f t) H → va_S (aR ad) s.heap H locs → lv_has ls 10 [(0, .ref (ad 0)), (1, .int x1), (2, .int x2), (3, .int x3), (4, .int x4), (5, .int x5), (6, .int x6), (7, .int x7), (8, .int x8)] → W p l e R s m args below meth c H locs 0 0 Q (F0 m 61 ls []) := by
  obtain ⟨hx, hb, hr, hml, hown, hts, hlocks, hK, hX0⟩ := id C0
  have lk148 := hts (.fieldLink RX10 148 "PlankNineModel" "planks" "I") (List.mem_of_getElem? (i := 2) rfl)
  have hiX10 : ∀ w ∈ u_ws RX10 TX10 34, w ∈ wsX10_better := fun w h => List.mem_cons_of_mem _ (List.mem_append_right _ h)
  intro n
  induction n with
  | zero =>
    intro x5 x6 x8 f hf
    exact no_none hf
  | succ n ih =>
    intro x5 x6 x8 f hf H locs ls hP hS hl
    have hf := (lp_X10_better_61_s N x1 x2 x3 x4 x7 n x5 x6 x8 f).symm.trans hf
    refine lv_iload hx hb dX10_better_61 (lv_at hl 8 rfl) ?_
    refine lv_aload_n hx hb dX10_better_63 rfl (lv_at hl 0 rfl) ?_
    refine va_get (D := D) (ci := 10) (v := .int (f 0 16)) (C := RX10) (T := TX10) (N := 34) hx hb hts hiX10 hown hK hP 0 rfl rfl 16 (by decide) lk148 (fun _ h9 => h9) rfl dX10_better_64 ?_
    refine lv_icmp_ge (tgt := 157) hx hb dX10_better_67 (by decide) (fun c67 => ?_) (fun c67 => ?_)
    · have hf := itT hf c67
      have hg_0 := Option.some.inj hf
      obtain ⟨rfl, hg_1⟩ := Prod.mk.inj hg_0
      obtain ⟨rfl, rfl⟩ := Prod.mk.inj hg_1
      exact kx157 H locs ls hP hS (lv_sub hl [0, 1, 2, 3, 4, 5, 6, 7] rfl)
    · have hf := itF hf c67
      refine lv_aload_n hx hb dX10_better_70 rfl (lv_at hl 0 rfl) ?_
      refine lv_iload hx hb dX10_better_71 (lv_at hl 7 rfl) ?_
      refine lv_iload hx hb dX10_better_73 (lv_at hl 8 rfl) ?_
      obtain ⟨f9, hq10, hf⟩ := bi_out hf
      refine cw_vv (As := [.int x7, .int x8]) (rest := []) ⟨hx, hb, hml, hown, hts⟩ xR_S hK hX0 hS hP (c_X10_changes hj l x7 x8 f t f9 hq10) (cwV 2 hts gX10_better_X10_changes rfl rfl rfl (by decide +kernel) ⟨Nat.le_trans (Nat.le_of_ble_eq_true rfl) hR.1, Nat.le_trans (Nat.le_of_ble_eq_true rfl) hR.2⟩) (va_recv hK hP (ci := 10) (q0 := 0) rfl rfl) rfl hl.1 rfl (Nat.le_of_ble_eq_true rfl) ⟨Nat.zero_le _, Nat.zero_le _⟩ dX10_better_75 (fun H locs hP hS => ?_)
      refine lv_aload_n hx hb dX10_better_78 rfl (lv_at hl 0 rfl) ?_
      refine lv_aload_n hx hb dX10_better_79 rfl (lv_at hl 0 rfl) ?_
      refine lv_iload_n hx hb dX10_better_80 rfl (lv_at hl 1 rfl) ?_
      refine lv_iload_n hx hb dX10_better_81 rfl (lv_at hl 2 rfl) ?_
      refine lv_iload_n hx hb dX10_better_82 rfl (lv_at hl 3 rfl) ?_
      obtain ⟨y11, hq12, hf⟩ := bi_out hf
      refine cw_vi (As := [.int x1, .int x2, .int x3]) (rest := [.ref (ad 0)]) ⟨hx, hb, hml, hown, hts⟩ xR_S hK hX0 hS hP (c_X10_cutOf hj l N x1 x2 x3 f9 t y11 hq12) (cwV 3 hts gX10_better_X10_cutOf rfl rfl rfl (by decide +kernel) ⟨Nat.le_trans (Nat.le_of_ble_eq_true rfl) hR.1, Nat.le_trans (Nat.le_of_ble_eq_true rfl) hR.2⟩) (va_recv hK hP (ci := 10) (q0 := 0) rfl rfl) rfl hl.1 rfl (Nat.le_of_ble_eq_true rfl) ⟨Nat.zero_le _, Nat.zero_le _⟩ dX10_better_83 (fun H locs hP hS => ?_)
      refine lv_iload_n hx hb dX10_better_86 rfl (lv_at hl 1 rfl) ?_
      obtain ⟨y13, hq14, hf⟩ := bi_out hf
      refine cw_vi (As := [.int y11, .int x1]) (rest := []) ⟨hx, hb, hml, hown, hts⟩ xR_S hK hX0 hS hP (c_X10_oftenBy hj l N y11 x1 f9 t y13 hq14) (cwV 2 hts gX10_better_X10_oftenBy rfl rfl rfl (by decide +kernel) ⟨Nat.le_trans (Nat.le_of_ble_eq_true rfl) hR.1, Nat.le_trans (Nat.le_of_ble_eq_true rfl) hR.2⟩) (va_recv hK hP (ci := 10) (q0 := 0) rfl rfl) rfl hl.1 rfl (Nat.le_of_ble_eq_true rfl) ⟨Nat.zero_le _, Nat.zero_le _⟩ dX10_better_87 (fun H locs hP hS => ?_)
      refine lv_istore (lv' := [(9, .int y13), (0, .ref (ad 0)), (1, .int x1), (2, .int x2), (3, .int x3), (4, .int x4), (5, .int x5), (6, .int x6), (7, .int x7), (8, .int x8)]) hx hb dX10_better_90 hl (by decide) rfl (fun ls hl => ?_)
      refine lv_aload_n hx hb dX10_better_92 rfl (lv_at hl 1 rfl) ?_
      refine lv_iload hx hb dX10_better_93 (lv_at hl 8 rfl) ?_
      refine lv_iload hx hb dX10_better_95 (lv_at hl 9 rfl) ?_
      obtain ⟨f15, hq16, hf⟩ := bi_out hf
      refine cw_vv (As := [.int x7, .int x8]) (rest := []) ⟨hx, hb, hml, hown, hts⟩ xR_S hK hX0 hS hP (c_X10_changes hj l x7 x8 f9 t f15 hq16) (cwV 2 hts gX10_better_X10_changes rfl rfl rfl (by decide +kernel) ⟨Nat.le_trans (Nat.le_of_ble_eq_true rfl) hR.1, Nat.le_trans (Nat.le_of_ble_eq_true rfl) hR.2⟩) (va_recv hK hP (ci := 10) (q0 := 0) rfl rfl) rfl hl.1 rfl (Nat.le_of_ble_eq_true rfl) ⟨Nat.zero_le _, Nat.zero_le _⟩ dX10_better_97 (fun H locs hP hS => ?_)
      refine lv_iload hx hb dX10_better_100 (lv_at hl 6 rfl) ?_
      refine lv_bipush (v := (-9)) hx hb dX10_better_102 (by decide) ?_
      obtain ⟨k18, ek18, hf⟩ := sq_out hf
      have hk18 : ∀ (v17 : Int32), k18 v17 = some (r5, r6, fR) → ∀ (H : Heap) (locs : List Loc) (ls : Array Slot), va_P D vwCl (wR ad cy f15 t) H → va_S (aR ad) s.heap H locs → lv_has ls 10 [(0, .ref (ad 0)), (1, .int x1), (2, .int x2), (3, .int x3), (4, .int x4), (6, .int x6), (7, .int x7), (8, .int x8), (9, .int y13)] → W p l e R s m args below meth c H locs 0 0 Q (F0 m 127 ls [.int v17]) := by
        intro v17 hf H locs ls hP hS hl
        have hf := sk1 ek18 v17 hf
        refine lv_istore (lv' := [(5, .int v17), (0, .ref (ad 0)), (1, .int x1), (2, .int x2), (3, .int x3), (4, .int x4), (6, .int x6), (7, .int x7), (8, .int x8), (9, .int y13)]) hx hb dX10_better_127 hl (by decide) rfl (fun ls hl => ?_)
        refine lv_iload hx hb dX10_better_129 (lv_at hl 0 rfl) ?_
        refine lv_bipush (v := 10) hx hb dX10_better_131 (by decide) ?_
        refine lv_iload hx hb dX10_better_133 (lv_at hl 7 rfl) ?_
        refine lv_imul hx hb dX10_better_135 ?_
        refine lv_iload hx hb dX10_better_136 (lv_at hl 8 rfl) ?_
        refine lv_iadd hx hb dX10_better_138 ?_
        refine lv_icmp_ne (tgt := 147) hx hb dX10_better_139 (by decide) (fun c139 => ?_) (fun c139 => ?_)
        · have hf := itF hf c139
          refine lv_iload hx hb dX10_better_147 (lv_at hl 6 rfl) ?_
          refine lv_istore (lv' := [(6, .int x6), (5, .int v17), (0, .ref (ad 0)), (1, .int x1), (2, .int x2), (3, .int x3), (4, .int x4), (7, .int x7), (8, .int x8), (9, .int y13)]) hx hb dX10_better_149 hl (by decide) rfl (fun ls hl => ?_)
          obtain ⟨x8_19, ex8_19, hf⟩ := sq_out hf
          refine lv_iinc (v := x8_19) (lv' := [(8, .int x8_19), (6, .int x6), (5, .int v17), (0, .ref (ad 0)), (1, .int x1), (2, .int x2), (3, .int x3), (4, .int x4), (7, .int x7), (9, .int y13)]) hx hb dX10_better_151 hl (k := 8) rfl (by rw [ex8_19]; rfl) (by decide) rfl (fun ls hl => ?_)
          refine lv_goto (tgt := 61) hx hb dX10_better_154 (by decide) ?_
          exact ih v17 x6 x8_19 f15 hf H locs ls hP hS (lv_sub hl [3, 4, 5, 6, 7, 2, 1, 8, 0] rfl)
        · have hf := itT hf c139
          refine lv_iload hx hb dX10_better_142 (lv_at hl 9 rfl) ?_
          refine lv_goto (tgt := 149) hx hb dX10_better_144 (by decide) ?_
          refine lv_istore (lv' := [(6, .int y13), (5, .int v17), (0, .ref (ad 0)), (1, .int x1), (2, .int x2), (3, .int x3), (4, .int x4), (7, .int x7), (8, .int x8), (9, .int y13)]) hx hb dX10_better_149 hl (by decide) rfl (fun ls hl => ?_)
          obtain ⟨x8_20, ex8_20, hf⟩ := sq_out hf
          refine lv_iinc (v := x8_20) (lv' := [(8, .int x8_20), (6, .int y13), (5, .int v17), (0, .ref (ad 0)), (1, .int x1), (2, .int x2), (3, .int x3), (4, .int x4), (7, .int x7), (9, .int y13)]) hx hb dX10_better_151 hl (k := 8) rfl (by rw [ex8_20]; rfl) (by decide) rfl (fun ls hl => ?_)
          refine lv_goto (tgt := 61) hx hb dX10_better_154 (by decide) ?_
          exact ih v17 y13 x8_20 f15 hf H locs ls hP hS (lv_sub hl [3, 4, 5, 6, 7, 2, 1, 8, 0] rfl)
      obtain ⟨k21, ek21, hf⟩ := sq_out hf
      have hk21 : k21 () = some (r5, r6, fR) → ∀ (H : Heap) (locs : List Loc) (ls : Array Slot), va_P D vwCl (wR ad cy f15 t) H → va_S (aR ad) s.heap H locs → lv_has ls 10 [(0, .ref (ad 0)), (1, .int x1), (2, .int x2), (3, .int x3), (4, .int x4), (6, .int x6), (7, .int x7), (8, .int x8), (9, .int y13)] → W p l e R s m args below meth c H locs 0 0 Q (F0 m 114 ls []) := by
        intro hf H locs ls hP hS hl
        have hf := sk1 ek21 () hf
        refine lv_bipush (v := 10) hx hb dX10_better_114 (by decide) ?_
        refine lv_iload hx hb dX10_better_116 (lv_at hl 6 rfl) ?_
        refine lv_imul hx hb dX10_better_118 ?_
        refine lv_iload hx hb dX10_better_119 (lv_at hl 7 rfl) ?_
        refine lv_iadd hx hb dX10_better_121 ?_
        refine lv_goto (tgt := 127) hx hb dX10_better_122 (by decide) ?_
        exact hk18 _ hf H locs ls hP hS (lv_sub hl [0, 1, 2, 3, 4, 5, 6, 7, 8] rfl)
      refine lv_icmp_eq (tgt := 114) hx hb dX10_better_104 (by decide) (fun c104 => ?_) (fun c104 => ?_)
      · have hf := itT hf c104
        exact hk21 hf H locs ls hP hS (lv_sub hl [1, 2, 3, 4, 5, 7, 8, 9, 0] rfl)
      · have hf := itF hf c104
        refine lv_iload hx hb dX10_better_107 (lv_at hl 0 rfl) ?_
        refine lv_iload hx hb dX10_better_109 (lv_at hl 7 rfl) ?_
        refine lv_icmp_le (tgt := 125) hx hb dX10_better_111 (by decide) (fun c111 => ?_) (fun c111 => ?_)
        · have hf := itT hf c111
          refine lv_iload hx hb dX10_better_125 (lv_at hl 6 rfl) ?_
          exact hk18 x5 hf H locs ls hP hS (lv_sub hl [1, 2, 3, 4, 5, 7, 8, 9, 0] rfl)
        · have hf := itF hf c111
          exact hk21 hf H locs ls hP hS (lv_sub hl [1, 2, 3, 4, 5, 7, 8, 9, 0] rfl)
def lp_X10_better_46 (N : Nat) (x1 : Int32) (x2 : Int32) (x3 : Int32) (x4 : Int32) : Nat → Int32 → Int32 → Int32 → mM → Option (Int32 × Int32 × mM)
  | 0, _, _, _, _ => none
  | n + 1, x5, x6, x7, f => if (f 0 16) ≤ x7 then some (x5, x6, f) else sq (x7 + 1) (fun x8_8 => bi3 (lp_X10_better_61 N x1 x2 x3 x4 x7 N x5 x6 x8_8 f) (fun y22 y23 f24 => sq (x7 + 1) (fun x7_26 => lp_X10_better_46 N x1 x2 x3 x4 n y22 y23 x7_26 f24)))
theorem lp_X10_better_46_s (N : Nat) (x1 : Int32) (x2 : Int32) (x3 : Int32) (x4 : Int32) (n : Nat) (x5 : Int32) (x6 : Int32) (x7 : Int32) (f : mM) : lp_X10_better_46 N x1 x2 x3 x4 (n + 1) x5 x6 x7 f = (if (f 0 16) ≤ x7 then some (x5, x6, f) else sq (x7 + 1) (fun x8_8 => bi3 (lp_X10_better_61 N x1 x2 x3 x4 x7 N x5 x6 x8_8 f) (fun y22 y23 f24 => sq (x7 + 1) (fun x7_26 => lp_X10_better_46 N x1 x2 x3 x4 n y22 y23 x7_26 f24)))) := rfl
set_option maxHeartbeats 4000000 in
set_option maxRecDepth 100000 in
theorem lp_X10_better_46_w (C0 : cX p s m args meth c cX10_better 10 (some .int) RX10 wsX10_better D cy (xR)) (hj : jR ad) (hR : 2 ≤ R.frames ∧ 53 ≤ R.locals) (N : Nat) (x1 : Int32) (x2 : Int32) (x3 : Int32) (x4 : Int32) (t : Int64) (r5 : Int32) (r6 : Int32) (fR : mM) (kx163 : ∀ (H : Heap) (locs : List Loc) (ls : Array Slot), va_P D vwCl (wR ad cy fR t) H → va_S (aR ad) s.heap H locs → lv_has ls 10 [(4, .int x4), (5, .int r5), (6, .int r6)] → W p l e R s m args below meth c H locs 0 0 Q (F0 m 163 ls [])) : ∀ (n : Nat) (x5 : Int32) (x6 : Int32) (x7 : Int32) (f : mM), lp_X10_better_46 N x1 x2 x3 x4 n x5 x6 x7 f = some (r5, r6, fR) → ∀ (H : Heap) (locs : List Loc) (ls : Array Slot), va_P D vwCl (wR ad cy f t) H → va_S (aR ad) s.heap H locs → lv_has ls 10 [(0, .ref (ad 0)), (1, .int x1), (2, .int x2), (3, .int x3), (4, .int x4), (5, .int x5), (6, .int x6), (7, .int x7)] → W p l e R s m args below meth c H locs 0 0 Q (F0 m 46 ls []) := by
  obtain ⟨hx, hb, hr, hml, hown, hts, hlocks, hK, hX0⟩ := id C0
  have lk148 := hts (.fieldLink RX10 148 "PlankNineModel" "planks" "I") (List.mem_of_getElem? (i := 2) rfl)
  have hiX10 : ∀ w ∈ u_ws RX10 TX10 34, w ∈ wsX10_better := fun w h => List.mem_cons_of_mem _ (List.mem_append_right _ h)
  intro n
  induction n with
  | zero =>
    intro x5 x6 x7 f hf
    exact no_none hf
  | succ n ih =>
    intro x5 x6 x7 f hf H locs ls hP hS hl
    have hf := (lp_X10_better_46_s N x1 x2 x3 x4 n x5 x6 x7 f).symm.trans hf
    refine lv_iload hx hb dX10_better_46 (lv_at hl 7 rfl) ?_
    refine lv_aload_n hx hb dX10_better_48 rfl (lv_at hl 0 rfl) ?_
    refine va_get (D := D) (ci := 10) (v := .int (f 0 16)) (C := RX10) (T := TX10) (N := 34) hx hb hts hiX10 hown hK hP 0 rfl rfl 16 (by decide) lk148 (fun _ h9 => h9) rfl dX10_better_49 ?_
    refine lv_icmp_ge (tgt := 163) hx hb dX10_better_52 (by decide) (fun c52 => ?_) (fun c52 => ?_)
    · have hf := itT hf c52
      have hg_0 := Option.some.inj hf
      obtain ⟨rfl, hg_1⟩ := Prod.mk.inj hg_0
      obtain ⟨rfl, rfl⟩ := Prod.mk.inj hg_1
      exact kx163 H locs ls hP hS (lv_sub hl [4, 5, 6] rfl)
    · have hf := itF hf c52
      refine lv_iload hx hb dX10_better_55 (lv_at hl 7 rfl) ?_
      refine lv_iconst (v := 1) hx hb dX10_better_57 (by decide) ?_
      refine lv_iadd hx hb dX10_better_58 ?_
      obtain ⟨x8_8, ex8_8, hf⟩ := sq_out hf
      refine lv_nmi ex8_8 ?_
      refine lv_istore (lv' := [(8, .int x8_8), (0, .ref (ad 0)), (1, .int x1), (2, .int x2), (3, .int x3), (4, .int x4), (5, .int x5), (6, .int x6), (7, .int x7)]) hx hb dX10_better_59 hl (by decide) rfl (fun ls hl => ?_)
      obtain ⟨y22, y23, f24, hlp25, hf⟩ := bi3_out hf
      refine lp_X10_better_61_w C0 hj hR N x1 x2 x3 x4 x7 t y22 y23 f24 ?_ N x5 x6 x8_8 f hlp25 H locs ls hP hS (lv_sub hl [1, 2, 3, 4, 5, 6, 7, 8, 0] rfl)
      intro H locs ls hP hS hl
      obtain ⟨x7_26, ex7_26, hf⟩ := sq_out hf
      refine lv_iinc (v := x7_26) (lv' := [(7, .int x7_26), (0, .ref (ad 0)), (1, .int x1), (2, .int x2), (3, .int x3), (4, .int x4), (5, .int y22), (6, .int y23)]) hx hb dX10_better_157 hl (k := 7) rfl (by rw [ex7_26]; rfl) (by decide) rfl (fun ls hl => ?_)
      refine lv_goto (tgt := 46) hx hb dX10_better_160 (by decide) ?_
      exact ih y22 y23 x7_26 f24 hf H locs ls hP hS (lv_sub hl [1, 2, 3, 4, 5, 6, 7, 0] rfl)
def q_X10_better (N : Nat) (x1 : Int32) (x2 : Int32) (x3 : Int32) (x4 : Int32) (f : mM) : Option (Int32 × mM) := sq (st2 f 0 0 0) (fun f1 => bi (q_X10_in x1 1 3) (fun y2 => if y2 = 0 then some ((-1), f1) else bi (q_X10_arePlaces x2 x3 f1) (fun y4 => if y4 = 0 then some ((-1), f1) else bi (q_X10_in x4 0 1) (fun y6 => if y6 = 0 then some ((-1), f1) else bi3 (lp_X10_better_46 N x1 x2 x3 x4 N (-9) (-9) 0 f1) (fun y27 y28 f29 => if x4 = 0 then some (y27, f29) else some (y28, f29))))))
set_option maxHeartbeats 4000000 in
set_option maxRecDepth 100000 in
theorem b_X10_better (C0 : cX p s m args meth c cX10_better 10 (some .int) RX10 wsX10_better D cy (xR)) (hj : jR ad) (hR : 2 ≤ R.frames ∧ 53 ≤ R.locals) (N : Nat) (x1 : Int32) (x2 : Int32) (x3 : Int32) (x4 : Int32) (f : mM) (t : Int64) (r : Int32) (fR : mM) (hf : q_X10_better N x1 x2 x3 x4 f = some (r, fR)) (kr : ∀ (H : Heap) (locs : List Loc) (ls : Array Slot) (pc : Nat), decode cX10_better pc = .ok (.ireturn, 1) → va_P D vwCl (wR ad cy fR t) H → va_S (aR ad) s.heap H locs → W p l e R s m args below meth c H locs 0 0 Q (F0 m pc ls [.int r])) (H : Heap) (locs : List Loc) (ls : Array Slot) (hP : va_P D vwCl (wR ad cy f t) H) (hS : va_S (aR ad) s.heap H locs) (hl : lv_has ls 10 [(0, .ref (ad 0)), (1, .int x1), (2, .int x2), (3, .int x3), (4, .int x4)]) : W p l e R s m args below meth c H locs 0 0 Q (F0 m 0 ls []) := by
  obtain ⟨hx, hb, hr, hml, hown, hts, hlocks, hK, hX0⟩ := id C0
  have lk69 := hts (.fieldLink RX10 69 "PlankNineModel" "thrown" "I") (List.mem_of_getElem? (i := 1) rfl)
  have hiX10 : ∀ w ∈ u_ws RX10 TX10 34, w ∈ wsX10_better := fun w h => List.mem_cons_of_mem _ (List.mem_append_right _ h)
  unfold q_X10_better at hf
  refine lv_aload_n hx hb dX10_better_0 rfl (lv_at hl 0 rfl) ?_
  refine lv_iconst (v := 0) hx hb dX10_better_1 (by decide) ?_
  obtain ⟨f1, ef1, hf⟩ := sq_out hf
  refine va_put (D := D) (ci := 10) (v := .int 0) (ty := .int) (C := RX10) (T := TX10) (N := 34) hx hb hts hiX10 tyX10 tyX10_ok nmX10 hown hK hP (dR hj f t) hS 0 rfl rfl 0 (by decide) lk69 (fun _ h9 => h9) rfl (by decide +kernel) rfl rfl (Nat.le_of_ble_eq_true rfl) dX10_better_2 (fun H locs hP _ hS => ?_)
  have hP := sR_0_0 ef1 hP
  refine lv_iload_n hx hb dX10_better_5 rfl (lv_at hl 1 rfl) ?_
  refine lv_iconst (v := 1) hx hb dX10_better_6 (by decide) ?_
  refine lv_iconst (v := 3) hx hb dX10_better_7 (by decide) ?_
  obtain ⟨y2, hq3, hf⟩ := bi_out hf
  refine cw_si (As := [.int x1, .int 1, .int 3]) (rest := []) ⟨hx, hb, hml, hown, hts⟩ xR_S hK hX0 hS hP (c_X10_in hj l x1 1 3 f1 t y2 hq3) (va_cwS 3 hts gX10_better_X10_in rfl rfl rfl (by decide +kernel) ⟨Nat.le_trans (Nat.le_of_ble_eq_true rfl) hR.1, Nat.le_trans (Nat.le_of_ble_eq_true rfl) hR.2⟩) rfl hl.1 rfl (Nat.le_of_ble_eq_true rfl) ⟨Nat.zero_le _, Nat.zero_le _⟩ dX10_better_8 (fun H locs hP hS => ?_)
  refine lv_if_eq (tgt := 33) hx hb dX10_better_11 (by decide) (fun c11 => ?_) (fun c11 => ?_)
  · have hf := itT hf c11
    refine lv_iconst (v := (-1)) hx hb dX10_better_33 (by decide) ?_
    obtain ⟨rfl, rfl⟩ := Prod.mk.inj (Option.some.inj hf)
    exact kr H locs ls 34 dX10_better_34 hP hS
  · have hf := itF hf c11
    refine lv_aload_n hx hb dX10_better_14 rfl (lv_at hl 0 rfl) ?_
    refine lv_iload_n hx hb dX10_better_15 rfl (lv_at hl 2 rfl) ?_
    refine lv_iload_n hx hb dX10_better_16 rfl (lv_at hl 3 rfl) ?_
    obtain ⟨y4, hq5, hf⟩ := bi_out hf
    refine cw_vi (As := [.int x2, .int x3]) (rest := []) ⟨hx, hb, hml, hown, hts⟩ xR_S hK hX0 hS hP (c_X10_arePlaces hj l x2 x3 f1 t y4 hq5) (cwV 2 hts gX10_better_X10_arePlaces rfl rfl rfl (by decide +kernel) ⟨Nat.le_trans (Nat.le_of_ble_eq_true rfl) hR.1, Nat.le_trans (Nat.le_of_ble_eq_true rfl) hR.2⟩) (va_recv hK hP (ci := 10) (q0 := 0) rfl rfl) rfl hl.1 rfl (Nat.le_of_ble_eq_true rfl) ⟨Nat.zero_le _, Nat.zero_le _⟩ dX10_better_17 (fun H locs hP hS => ?_)
    refine lv_if_eq (tgt := 33) hx hb dX10_better_20 (by decide) (fun c20 => ?_) (fun c20 => ?_)
    · have hf := itT hf c20
      refine lv_iconst (v := (-1)) hx hb dX10_better_33 (by decide) ?_
      obtain ⟨rfl, rfl⟩ := Prod.mk.inj (Option.some.inj hf)
      exact kr H locs ls 34 dX10_better_34 hP hS
    · have hf := itF hf c20
      refine lv_iload hx hb dX10_better_23 (lv_at hl 4 rfl) ?_
      refine lv_iconst (v := 0) hx hb dX10_better_25 (by decide) ?_
      refine lv_iconst (v := 1) hx hb dX10_better_26 (by decide) ?_
      obtain ⟨y6, hq7, hf⟩ := bi_out hf
      refine cw_si (As := [.int x4, .int 0, .int 1]) (rest := []) ⟨hx, hb, hml, hown, hts⟩ xR_S hK hX0 hS hP (c_X10_in hj l x4 0 1 f1 t y6 hq7) (va_cwS 3 hts gX10_better_X10_in rfl rfl rfl (by decide +kernel) ⟨Nat.le_trans (Nat.le_of_ble_eq_true rfl) hR.1, Nat.le_trans (Nat.le_of_ble_eq_true rfl) hR.2⟩) rfl hl.1 rfl (Nat.le_of_ble_eq_true rfl) ⟨Nat.zero_le _, Nat.zero_le _⟩ dX10_better_27 (fun H locs hP hS => ?_)
      refine lv_if_ne (tgt := 35) hx hb dX10_better_30 (by decide) (fun c30 => ?_) (fun c30 => ?_)
      · have hf := itF hf c30
        refine lv_bipush (v := (-9)) hx hb dX10_better_35 (by decide) ?_
        refine lv_istore (lv' := [(5, .int (-9)), (0, .ref (ad 0)), (1, .int x1), (2, .int x2), (3, .int x3), (4, .int x4)]) hx hb dX10_better_37 hl (by decide) rfl (fun ls hl => ?_)
        refine lv_bipush (v := (-9)) hx hb dX10_better_39 (by decide) ?_
        refine lv_istore (lv' := [(6, .int (-9)), (5, .int (-9)), (0, .ref (ad 0)), (1, .int x1), (2, .int x2), (3, .int x3), (4, .int x4)]) hx hb dX10_better_41 hl (by decide) rfl (fun ls hl => ?_)
        refine lv_iconst (v := 0) hx hb dX10_better_43 (by decide) ?_
        refine lv_istore (lv' := [(7, .int 0), (6, .int (-9)), (5, .int (-9)), (0, .ref (ad 0)), (1, .int x1), (2, .int x2), (3, .int x3), (4, .int x4)]) hx hb dX10_better_44 hl (by decide) rfl (fun ls hl => ?_)
        obtain ⟨y27, y28, f29, hlp30, hf⟩ := bi3_out hf
        refine lp_X10_better_46_w C0 hj hR N x1 x2 x3 x4 t y27 y28 f29 ?_ N (-9) (-9) 0 f1 hlp30 H locs ls hP hS (lv_sub hl [3, 4, 5, 6, 7, 2, 1, 0] rfl)
        intro H locs ls hP hS hl
        refine lv_iload hx hb dX10_better_163 (lv_at hl 0 rfl) ?_
        refine lv_if_ne (tgt := 173) hx hb dX10_better_165 (by decide) (fun c165 => ?_) (fun c165 => ?_)
        · have hf := itF hf c165
          refine lv_iload hx hb dX10_better_173 (lv_at hl 2 rfl) ?_
          obtain ⟨rfl, rfl⟩ := Prod.mk.inj (Option.some.inj hf)
          exact kr H locs ls 175 dX10_better_175 hP hS
        · have hf := itT hf c165
          refine lv_iload hx hb dX10_better_168 (lv_at hl 1 rfl) ?_
          refine lv_goto (tgt := 175) hx hb dX10_better_170 (by decide) ?_
          obtain ⟨rfl, rfl⟩ := Prod.mk.inj (Option.some.inj hf)
          exact kr H locs ls 175 dX10_better_175 hP hS
      · have hf := itT hf c30
        refine lv_iconst (v := (-1)) hx hb dX10_better_33 (by decide) ?_
        obtain ⟨rfl, rfl⟩ := Prod.mk.inj (Option.some.inj hf)
        exact kr H locs ls 34 dX10_better_34 hP hS
set_option maxHeartbeats 4000000 in
set_option maxRecDepth 100000 in
theorem c_X10_better (hj : jR ad) (l : Launch) (N : Nat) (x1 : Int32) (x2 : Int32) (x3 : Int32) (x4 : Int32) (f : mM) (t : Int64) (r : Int32) (fR : mM) (hf : q_X10_better N x1 x2 x3 x4 f = some (r, fR)) : Met l yX10_better wsX10_better ({ frames := 2, cells := 0, slots := 0, locals := 53 }) (va_Pc ([.ref (ad 0), .int x1, .int x2, .int x3, .int x4]) (pre D cy (wR ad cy) (xR) f t)) (va_Qi (fun (r2 : Int32) (u : mM × Int64) => r2 = r ∧ u = (fR, t)) (atW D (wR ad cy)) (aR ad)) 0 0 (aR ad) := by
  refine Met.ofW (cc := cX10_better) (maxL := 10) (ret := (some .int)) (by decide) rfl ?_
  intro p e s m args below meth c s₁ B hml hv
  obtain ⟨rfl, hP, hK, hX0⟩ := hv
  have hl := lv_entry ([.ref (ad 0), .int x1, .int x2, .int x3, .int x4]) (n := 10) (Nat.le_of_ble_eq_true rfl)
  rw [lg_entry_eq]
  generalize (lg_sl ([.ref (ad 0), .int x1, .int x2, .int x3, .int x4]) ++ List.replicate (10 - (lg_sl ([.ref (ad 0), .int x1, .int x2, .int x3, .int x4])).length) Slot.unset).toArray = ls at hl ⊢
  have hlocks := B.notSynchronized
  exact b_X10_better ⟨B.exec, B.bytes, B.returns, hml, findClass_of_methodNamed B.named, atoms_spec (ws := wsX10_better) B.pre, hlocks, hK, hX0⟩ hj ⟨Nat.le_refl _, Nat.le_refl _⟩ N x1 x2 x3 x4 f t r fR hf (fun H locs ls pc hd hP hS => W.iret B.exec B.bytes B.returns (fun t2 ht hW => ⟨⟨r, (fR, t), rfl, ⟨rfl, rfl⟩, by show va_P D vwCl _ t2.heap; rw [ht]; exact hP⟩, hS.F ht⟩) hS.2.2 hd) s.heap [] ls hP va_S.rf hl
def q_X10_spentOf (x1 : Int32) (x2 : Int32) (f : mM) : Option (Int32) := gi ((50 * x1) + x2) 100 (gi x2 50 (sq ((f 9 (Int32.toNatClampNeg ((50 * x1) + x2))) - (f 8 (Int32.toNatClampNeg x2))) (fun x3_3 => if x3_3 ≤ 0 then some 0 else some x3_3)))
set_option maxHeartbeats 4000000 in
set_option maxRecDepth 100000 in
theorem b_X10_spentOf (C0 : cX p s m args meth c cX10_spentOf 4 (some .int) RX10 wsX10_spentOf D cy (xR)) (hj : jR ad) (hR : 0 ≤ R.frames ∧ 0 ≤ R.locals) (x1 : Int32) (x2 : Int32) (f : mM) (t : Int64) (r : Int32) (hf : q_X10_spentOf x1 x2 f = some r) (kr : ∀ (H : Heap) (locs : List Loc) (ls : Array Slot) (pc : Nat), decode cX10_spentOf pc = .ok (.ireturn, 1) → va_P D vwCl (wR ad cy f t) H → va_S (aR ad) s.heap H locs → W p l e R s m args below meth c H locs 0 0 Q (F0 m pc ls [.int r])) (H : Heap) (locs : List Loc) (ls : Array Slot) (hP : va_P D vwCl (wR ad cy f t) H) (hS : va_S (aR ad) s.heap H locs) (hl : lv_has ls 4 [(0, .ref (ad 0)), (1, .int x1), (2, .int x2)]) : W p l e R s m args below meth c H locs 0 0 Q (F0 m 0 ls []) := by
  obtain ⟨hx, hb, hr, hml, hown, hts, hlocks, hK, hX0⟩ := id C0
  have lk34 := hts (.fieldLink RX10 34 "PlankNineModel" "kept" "[I") (List.mem_of_getElem? (i := 1) rfl)
  have hiX10 : ∀ w ∈ u_ws RX10 TX10 34, w ∈ wsX10_spentOf := fun w h => List.mem_cons_of_mem _ (List.mem_append_right _ h)
  have lk31 := hts (.fieldLink RX10 31 "PlankNineModel" "s" "[I") (List.mem_of_getElem? (i := 2) rfl)
  unfold q_X10_spentOf at hf
  refine lv_aload_n hx hb dX10_spentOf_0 rfl (lv_at hl 0 rfl) ?_
  refine va_get (D := D) (ci := 10) (v := .ref (ad 9)) (C := RX10) (T := TX10) (N := 34) hx hb hts hiX10 hown hK hP 0 rfl rfl 24 (by decide) lk34 (fun _ h9 => h9) rfl dX10_spentOf_1 ?_
  refine lv_bipush (v := 50) hx hb dX10_spentOf_4 (by decide) ?_
  refine lv_iload_n hx hb dX10_spentOf_6 rfl (lv_at hl 1 rfl) ?_
  refine lv_imul hx hb dX10_spentOf_7 ?_
  refine lv_iload_n hx hb dX10_spentOf_8 rfl (lv_at hl 2 rfl) ?_
  refine lv_iadd hx hb dX10_spentOf_9 ?_
  obtain ⟨hin1, hf⟩ := gi_out hf
  refine va_iald hx hb hK hP 9 1 rfl rfl hin1 dX10_spentOf_10 ?_
  refine lv_aload_n hx hb dX10_spentOf_11 rfl (lv_at hl 0 rfl) ?_
  refine va_get (D := D) (ci := 10) (v := .ref (ad 8)) (C := RX10) (T := TX10) (N := 34) hx hb hts hiX10 hown hK hP 0 rfl rfl 23 (by decide) lk31 (fun _ h9 => h9) rfl dX10_spentOf_12 ?_
  refine lv_iload_n hx hb dX10_spentOf_15 rfl (lv_at hl 2 rfl) ?_
  obtain ⟨hin2, hf⟩ := gi_out hf
  refine va_iald hx hb hK hP 8 1 rfl rfl hin2 dX10_spentOf_16 ?_
  refine lv_isub hx hb dX10_spentOf_17 ?_
  obtain ⟨x3_3, ex3_3, hf⟩ := sq_out hf
  refine lv_nmi ex3_3 ?_
  refine lv_istore_n (lv' := [(3, .int x3_3), (0, .ref (ad 0)), (1, .int x1), (2, .int x2)]) hx hb dX10_spentOf_18 rfl hl (by decide) rfl (fun ls hl => ?_)
  refine lv_iload_n hx hb dX10_spentOf_19 rfl (lv_at hl 0 rfl) ?_
  refine lv_if_le (tgt := 27) hx hb dX10_spentOf_20 (by decide) (fun c20 => ?_) (fun c20 => ?_)
  · have hf := itT hf c20
    refine lv_iconst (v := 0) hx hb dX10_spentOf_27 (by decide) ?_
    obtain rfl := Option.some.inj hf
    exact kr H locs ls 28 dX10_spentOf_28 hP hS
  · have hf := itF hf c20
    refine lv_iload_n hx hb dX10_spentOf_23 rfl (lv_at hl 0 rfl) ?_
    refine lv_goto (tgt := 28) hx hb dX10_spentOf_24 (by decide) ?_
    obtain rfl := Option.some.inj hf
    exact kr H locs ls 28 dX10_spentOf_28 hP hS
set_option maxHeartbeats 4000000 in
set_option maxRecDepth 100000 in
theorem c_X10_spentOf (hj : jR ad) (l : Launch) (x1 : Int32) (x2 : Int32) (f : mM) (t : Int64) (r : Int32) (hf : q_X10_spentOf x1 x2 f = some r) : Met l yX10_spentOf wsX10_spentOf ({ frames := 0, cells := 0, slots := 0, locals := 0 }) (va_Pc ([.ref (ad 0), .int x1, .int x2]) (pre D cy (wR ad cy) (xR) f t)) (va_Qi (fun (r2 : Int32) (u : mM × Int64) => r2 = r ∧ u = (f, t)) (atW D (wR ad cy)) (aR ad)) 0 0 (aR ad) := by
  refine Met.ofW (cc := cX10_spentOf) (maxL := 4) (ret := (some .int)) (by decide) rfl ?_
  intro p e s m args below meth c s₁ B hml hv
  obtain ⟨rfl, hP, hK, hX0⟩ := hv
  have hl := lv_entry ([.ref (ad 0), .int x1, .int x2]) (n := 4) (Nat.le_of_ble_eq_true rfl)
  rw [lg_entry_eq]
  generalize (lg_sl ([.ref (ad 0), .int x1, .int x2]) ++ List.replicate (4 - (lg_sl ([.ref (ad 0), .int x1, .int x2])).length) Slot.unset).toArray = ls at hl ⊢
  have hlocks := B.notSynchronized
  exact b_X10_spentOf ⟨B.exec, B.bytes, B.returns, hml, findClass_of_methodNamed B.named, atoms_spec (ws := wsX10_spentOf) B.pre, hlocks, hK, hX0⟩ hj ⟨Nat.le_refl _, Nat.le_refl _⟩ x1 x2 f t r hf (fun H locs ls pc hd hP hS => W.iret B.exec B.bytes B.returns (fun t2 ht hW => ⟨⟨r, (f, t), rfl, ⟨rfl, rfl⟩, by show va_P D vwCl _ t2.heap; rw [ht]; exact hP⟩, hS.F ht⟩) hS.2.2 hd) s.heap [] ls hP va_S.rf hl
def lp_X10_spent_46 (N : Nat) (x1 : Int32) (x2 : Int32) (f : mM) : Nat → Int32 → Int32 → Option (Int32)
  | 0, _, _ => none
  | n + 1, x3, x4 => if (f 0 16) ≤ x4 then some x3 else sq (fun (v6 : Int32) => sq (x3 + v6) (fun x3_8 => sq (x4 + 1) (fun x4_9 => lp_X10_spent_46 N x1 x2 f n x3_8 x4_9))) (fun k7 => sq (fun (_ : Unit) => bi (q_X10_spentOf x1 x4 f) (fun y11 => k7 y11)) (fun k10 => if x2 = (-1) then k10 () else if x2 = x4 then k10 () else k7 0))
theorem lp_X10_spent_46_s (N : Nat) (x1 : Int32) (x2 : Int32) (f : mM) (n : Nat) (x3 : Int32) (x4 : Int32) : lp_X10_spent_46 N x1 x2 f (n + 1) x3 x4 = (if (f 0 16) ≤ x4 then some x3 else sq (fun (v6 : Int32) => sq (x3 + v6) (fun x3_8 => sq (x4 + 1) (fun x4_9 => lp_X10_spent_46 N x1 x2 f n x3_8 x4_9))) (fun k7 => sq (fun (_ : Unit) => bi (q_X10_spentOf x1 x4 f) (fun y11 => k7 y11)) (fun k10 => if x2 = (-1) then k10 () else if x2 = x4 then k10 () else k7 0))) := rfl
set_option maxHeartbeats 4000000 in
set_option maxRecDepth 100000 in
theorem lp_X10_spent_46_w (C0 : cX p s m args meth c cX10_spent 5 (some .int) RX10 wsX10_spent D cy (xR)) (hj : jR ad) (hR : 2 ≤ R.frames ∧ 43 ≤ R.locals) (N : Nat) (x1 : Int32) (x2 : Int32) (f : mM) (t : Int64) (r3 : Int32) (kx86 : ∀ (H : Heap) (locs : List Loc) (ls : Array Slot), va_P D vwCl (wR ad cy f t) H → va_S (aR ad) s.heap H locs → lv_has ls 5 [(3, .int r3)] → W p l e R s m args below meth c H locs 0 0 Q (F0 m 86 ls [])) : ∀ (n : Nat) (x3 : Int32) (x4 : Int32), lp_X10_spent_46 N x1 x2 f n x3 x4 = some r3 → ∀ (H : Heap) (locs : List Loc) (ls : Array Slot), va_P D vwCl (wR ad cy f t) H → va_S (aR ad) s.heap H locs → lv_has ls 5 [(0, .ref (ad 0)), (1, .int x1), (2, .int x2), (3, .int x3), (4, .int x4)] → W p l e R s m args below meth c H locs 0 0 Q (F0 m 46 ls []) := by
  obtain ⟨hx, hb, hr, hml, hown, hts, hlocks, hK, hX0⟩ := id C0
  have lk148 := hts (.fieldLink RX10 148 "PlankNineModel" "planks" "I") (List.mem_of_getElem? (i := 3) rfl)
  have hiX10 : ∀ w ∈ u_ws RX10 TX10 34, w ∈ wsX10_spent := fun w h => List.mem_cons_of_mem _ (List.mem_append_right _ h)
  intro n
  induction n with
  | zero =>
    intro x3 x4 hf
    exact no_none hf
  | succ n ih =>
    intro x3 x4 hf H locs ls hP hS hl
    have hf := (lp_X10_spent_46_s N x1 x2 f n x3 x4).symm.trans hf
    refine lv_iload hx hb dX10_spent_46 (lv_at hl 4 rfl) ?_
    refine lv_aload_n hx hb dX10_spent_48 rfl (lv_at hl 0 rfl) ?_
    refine va_get (D := D) (ci := 10) (v := .int (f 0 16)) (C := RX10) (T := TX10) (N := 34) hx hb hts hiX10 hown hK hP 0 rfl rfl 16 (by decide) lk148 (fun _ h9 => h9) rfl dX10_spent_49 ?_
    refine lv_icmp_ge (tgt := 86) hx hb dX10_spent_52 (by decide) (fun c52 => ?_) (fun c52 => ?_)
    · have hf := itT hf c52
      obtain rfl := Option.some.inj hf
      exact kx86 H locs ls hP hS (lv_sub hl [3] rfl)
    · have hf := itF hf c52
      refine lv_iload_n hx hb dX10_spent_55 rfl (lv_at hl 3 rfl) ?_
      refine lv_iload_n hx hb dX10_spent_56 rfl (lv_at hl 2 rfl) ?_
      refine lv_iconst (v := (-1)) hx hb dX10_spent_57 (by decide) ?_
      obtain ⟨k7, ek7, hf⟩ := sq_out hf
      have hk7 : ∀ (v6 : Int32), k7 v6 = some r3 → ∀ (H : Heap) (locs : List Loc) (ls : Array Slot), va_P D vwCl (wR ad cy f t) H → va_S (aR ad) s.heap H locs → lv_has ls 5 [(0, .ref (ad 0)), (1, .int x1), (2, .int x2), (4, .int x4)] → W p l e R s m args below meth c H locs 0 0 Q (F0 m 78 ls [.int v6, .int x3]) := by
        intro v6 hf H locs ls hP hS hl
        have hf := sk1 ek7 v6 hf
        refine lv_iadd hx hb dX10_spent_78 ?_
        obtain ⟨x3_8, ex3_8, hf⟩ := sq_out hf
        refine lv_nmi ex3_8 ?_
        refine lv_istore_n (lv' := [(3, .int x3_8), (0, .ref (ad 0)), (1, .int x1), (2, .int x2), (4, .int x4)]) hx hb dX10_spent_79 rfl hl (by decide) rfl (fun ls hl => ?_)
        obtain ⟨x4_9, ex4_9, hf⟩ := sq_out hf
        refine lv_iinc (v := x4_9) (lv' := [(4, .int x4_9), (3, .int x3_8), (0, .ref (ad 0)), (1, .int x1), (2, .int x2)]) hx hb dX10_spent_80 hl (k := 4) rfl (by rw [ex4_9]; rfl) (by decide) rfl (fun ls hl => ?_)
        refine lv_goto (tgt := 46) hx hb dX10_spent_83 (by decide) ?_
        exact ih x3_8 x4_9 hf H locs ls hP hS (lv_sub hl [2, 3, 4, 1, 0] rfl)
      obtain ⟨k10, ek10, hf⟩ := sq_out hf
      have hk10 : k10 () = some r3 → ∀ (H : Heap) (locs : List Loc) (ls : Array Slot), va_P D vwCl (wR ad cy f t) H → va_S (aR ad) s.heap H locs → lv_has ls 5 [(0, .ref (ad 0)), (1, .int x1), (2, .int x2), (4, .int x4)] → W p l e R s m args below meth c H locs 0 0 Q (F0 m 67 ls [.int x3]) := by
        intro hf H locs ls hP hS hl
        have hf := sk1 ek10 () hf
        refine lv_aload_n hx hb dX10_spent_67 rfl (lv_at hl 0 rfl) ?_
        refine lv_iload_n hx hb dX10_spent_68 rfl (lv_at hl 1 rfl) ?_
        refine lv_iload hx hb dX10_spent_69 (lv_at hl 3 rfl) ?_
        obtain ⟨y11, hq12, hf⟩ := bi_out hf
        refine cw_vi (As := [.int x1, .int x4]) (rest := [.int x3]) ⟨hx, hb, hml, hown, hts⟩ xR_S hK hX0 hS hP (c_X10_spentOf hj l x1 x4 f t y11 hq12) (cwV 2 hts gX10_spent_X10_spentOf rfl rfl rfl (by decide +kernel) ⟨Nat.le_trans (Nat.le_of_ble_eq_true rfl) hR.1, Nat.le_trans (Nat.le_of_ble_eq_true rfl) hR.2⟩) (va_recv hK hP (ci := 10) (q0 := 0) rfl rfl) rfl hl.1 rfl (Nat.le_of_ble_eq_true rfl) ⟨Nat.zero_le _, Nat.zero_le _⟩ dX10_spent_71 (fun H locs hP hS => ?_)
        refine lv_goto (tgt := 78) hx hb dX10_spent_74 (by decide) ?_
        exact hk7 y11 hf H locs ls hP hS (lv_sub hl [0, 1, 2, 3] rfl)
      refine lv_icmp_eq (tgt := 67) hx hb dX10_spent_58 (by decide) (fun c58 => ?_) (fun c58 => ?_)
      · have hf := itT hf c58
        exact hk10 hf H locs ls hP hS (lv_sub hl [0, 1, 2, 4] rfl)
      · have hf := itF hf c58
        refine lv_iload_n hx hb dX10_spent_61 rfl (lv_at hl 2 rfl) ?_
        refine lv_iload hx hb dX10_spent_62 (lv_at hl 4 rfl) ?_
        refine lv_icmp_ne (tgt := 77) hx hb dX10_spent_64 (by decide) (fun c64 => ?_) (fun c64 => ?_)
        · have hf := itF hf c64
          refine lv_iconst (v := 0) hx hb dX10_spent_77 (by decide) ?_
          exact hk7 0 hf H locs ls hP hS (lv_sub hl [0, 1, 2, 4] rfl)
        · have hf := itT hf c64
          exact hk10 hf H locs ls hP hS (lv_sub hl [0, 1, 2, 4] rfl)
def q_X10_spent (N : Nat) (x1 : Int32) (x2 : Int32) (f : mM) : Option (Int32 × mM) := sq (st2 f 0 0 0) (fun f1 => bi (q_X10_in x1 0 1) (fun y2 => if y2 = 0 then some ((-1), f1) else sq (fun (_ : Unit) => gi x1 2 (if (f1 10 (Int32.toNatClampNeg x1)) = 0 then some ((-2), f1) else bi (lp_X10_spent_46 N x1 x2 f1 N 0 0) (fun y13 => some (y13, f1)))) (fun k4 => if x2 = (-1) then k4 () else bi (q_X10_isPlank x2 f1) (fun y15 => if y15 = 0 then some ((-1), f1) else k4 ()))))
set_option maxHeartbeats 4000000 in
set_option maxRecDepth 100000 in
theorem b_X10_spent (C0 : cX p s m args meth c cX10_spent 5 (some .int) RX10 wsX10_spent D cy (xR)) (hj : jR ad) (hR : 2 ≤ R.frames ∧ 43 ≤ R.locals) (N : Nat) (x1 : Int32) (x2 : Int32) (f : mM) (t : Int64) (r : Int32) (fR : mM) (hf : q_X10_spent N x1 x2 f = some (r, fR)) (kr : ∀ (H : Heap) (locs : List Loc) (ls : Array Slot) (pc : Nat), decode cX10_spent pc = .ok (.ireturn, 1) → va_P D vwCl (wR ad cy fR t) H → va_S (aR ad) s.heap H locs → W p l e R s m args below meth c H locs 0 0 Q (F0 m pc ls [.int r])) (H : Heap) (locs : List Loc) (ls : Array Slot) (hP : va_P D vwCl (wR ad cy f t) H) (hS : va_S (aR ad) s.heap H locs) (hl : lv_has ls 5 [(0, .ref (ad 0)), (1, .int x1), (2, .int x2)]) : W p l e R s m args below meth c H locs 0 0 Q (F0 m 0 ls []) := by
  obtain ⟨hx, hb, hr, hml, hown, hts, hlocks, hK, hX0⟩ := id C0
  have lk69 := hts (.fieldLink RX10 69 "PlankNineModel" "thrown" "I") (List.mem_of_getElem? (i := 1) rfl)
  have hiX10 : ∀ w ∈ u_ws RX10 TX10 34, w ∈ wsX10_spent := fun w h => List.mem_cons_of_mem _ (List.mem_append_right _ h)
  have lk37 := hts (.fieldLink RX10 37 "PlankNineModel" "isKept" "[Z") (List.mem_of_getElem? (i := 2) rfl)
  unfold q_X10_spent at hf
  refine lv_aload_n hx hb dX10_spent_0 rfl (lv_at hl 0 rfl) ?_
  refine lv_iconst (v := 0) hx hb dX10_spent_1 (by decide) ?_
  obtain ⟨f1, ef1, hf⟩ := sq_out hf
  refine va_put (D := D) (ci := 10) (v := .int 0) (ty := .int) (C := RX10) (T := TX10) (N := 34) hx hb hts hiX10 tyX10 tyX10_ok nmX10 hown hK hP (dR hj f t) hS 0 rfl rfl 0 (by decide) lk69 (fun _ h9 => h9) rfl (by decide +kernel) rfl rfl (Nat.le_of_ble_eq_true rfl) dX10_spent_2 (fun H locs hP _ hS => ?_)
  have hP := sR_0_0 ef1 hP
  refine lv_iload_n hx hb dX10_spent_5 rfl (lv_at hl 1 rfl) ?_
  refine lv_iconst (v := 0) hx hb dX10_spent_6 (by decide) ?_
  refine lv_iconst (v := 1) hx hb dX10_spent_7 (by decide) ?_
  obtain ⟨y2, hq3, hf⟩ := bi_out hf
  refine cw_si (As := [.int x1, .int 0, .int 1]) (rest := []) ⟨hx, hb, hml, hown, hts⟩ xR_S hK hX0 hS hP (c_X10_in hj l x1 0 1 f1 t y2 hq3) (va_cwS 3 hts gX10_spent_X10_in rfl rfl rfl (by decide +kernel) ⟨Nat.le_trans (Nat.le_of_ble_eq_true rfl) hR.1, Nat.le_trans (Nat.le_of_ble_eq_true rfl) hR.2⟩) rfl hl.1 rfl (Nat.le_of_ble_eq_true rfl) ⟨Nat.zero_le _, Nat.zero_le _⟩ dX10_spent_8 (fun H locs hP hS => ?_)
  refine lv_if_eq (tgt := 27) hx hb dX10_spent_11 (by decide) (fun c11 => ?_) (fun c11 => ?_)
  · have hf := itT hf c11
    refine lv_iconst (v := (-1)) hx hb dX10_spent_27 (by decide) ?_
    obtain ⟨rfl, rfl⟩ := Prod.mk.inj (Option.some.inj hf)
    exact kr H locs ls 28 dX10_spent_28 hP hS
  · have hf := itF hf c11
    refine lv_iload_n hx hb dX10_spent_14 rfl (lv_at hl 2 rfl) ?_
    refine lv_iconst (v := (-1)) hx hb dX10_spent_15 (by decide) ?_
    obtain ⟨k4, ek4, hf⟩ := sq_out hf
    have hk4 : k4 () = some (r, fR) → ∀ (H : Heap) (locs : List Loc) (ls : Array Slot), va_P D vwCl (wR ad cy f1 t) H → va_S (aR ad) s.heap H locs → lv_has ls 5 [(0, .ref (ad 0)), (1, .int x1), (2, .int x2)] → W p l e R s m args below meth c H locs 0 0 Q (F0 m 29 ls []) := by
      intro hf H locs ls hP hS hl
      have hf := sk1 ek4 () hf
      refine lv_aload_n hx hb dX10_spent_29 rfl (lv_at hl 0 rfl) ?_
      refine va_get (D := D) (ci := 10) (v := .ref (ad 10)) (C := RX10) (T := TX10) (N := 34) hx hb hts hiX10 hown hK hP 0 rfl rfl 25 (by decide) lk37 (fun _ h9 => h9) rfl dX10_spent_30 ?_
      refine lv_iload_n hx hb dX10_spent_33 rfl (lv_at hl 1 rfl) ?_
      obtain ⟨hin5, hf⟩ := gi_out hf
      refine va_zald hx hb hK hP 10 2 rfl rfl hin5 dX10_spent_34 ?_
      refine lv_if_ne (tgt := 41) hx hb dX10_spent_35 (by decide) (fun c35 => ?_) (fun c35 => ?_)
      · have hf := itF hf c35
        refine lv_iconst (v := 0) hx hb dX10_spent_41 (by decide) ?_
        refine lv_istore_n (lv' := [(3, .int 0), (0, .ref (ad 0)), (1, .int x1), (2, .int x2)]) hx hb dX10_spent_42 rfl hl (by decide) rfl (fun ls hl => ?_)
        refine lv_iconst (v := 0) hx hb dX10_spent_43 (by decide) ?_
        refine lv_istore (lv' := [(4, .int 0), (3, .int 0), (0, .ref (ad 0)), (1, .int x1), (2, .int x2)]) hx hb dX10_spent_44 hl (by decide) rfl (fun ls hl => ?_)
        obtain ⟨y13, hlp14, hf⟩ := bi_out hf
        refine lp_X10_spent_46_w C0 hj hR N x1 x2 f1 t y13 ?_ N 0 0 hlp14 H locs ls hP hS (lv_sub hl [2, 3, 4, 1, 0] rfl)
        intro H locs ls hP hS hl
        refine lv_iload_n hx hb dX10_spent_86 rfl (lv_at hl 0 rfl) ?_
        obtain ⟨rfl, rfl⟩ := Prod.mk.inj (Option.some.inj hf)
        exact kr H locs ls 87 dX10_spent_87 hP hS
      · have hf := itT hf c35
        refine lv_bipush (v := (-2)) hx hb dX10_spent_38 (by decide) ?_
        obtain ⟨rfl, rfl⟩ := Prod.mk.inj (Option.some.inj hf)
        exact kr H locs ls 40 dX10_spent_40 hP hS
    refine lv_icmp_eq (tgt := 29) hx hb dX10_spent_16 (by decide) (fun c16 => ?_) (fun c16 => ?_)
    · have hf := itT hf c16
      exact hk4 hf H locs ls hP hS (lv_sub hl [0, 1, 2] rfl)
    · have hf := itF hf c16
      refine lv_aload_n hx hb dX10_spent_19 rfl (lv_at hl 0 rfl) ?_
      refine lv_iload_n hx hb dX10_spent_20 rfl (lv_at hl 2 rfl) ?_
      obtain ⟨y15, hq16, hf⟩ := bi_out hf
      refine cw_vi (As := [.int x2]) (rest := []) ⟨hx, hb, hml, hown, hts⟩ xR_S hK hX0 hS hP (c_X10_isPlank hj l x2 f1 t y15 hq16) (cwV 1 hts gX10_spent_X10_isPlank rfl rfl rfl (by decide +kernel) ⟨Nat.le_trans (Nat.le_of_ble_eq_true rfl) hR.1, Nat.le_trans (Nat.le_of_ble_eq_true rfl) hR.2⟩) (va_recv hK hP (ci := 10) (q0 := 0) rfl rfl) rfl hl.1 rfl (Nat.le_of_ble_eq_true rfl) ⟨Nat.zero_le _, Nat.zero_le _⟩ dX10_spent_21 (fun H locs hP hS => ?_)
      refine lv_if_ne (tgt := 29) hx hb dX10_spent_24 (by decide) (fun c24 => ?_) (fun c24 => ?_)
      · have hf := itF hf c24
        exact hk4 hf H locs ls hP hS (lv_sub hl [0, 1, 2] rfl)
      · have hf := itT hf c24
        refine lv_iconst (v := (-1)) hx hb dX10_spent_27 (by decide) ?_
        obtain ⟨rfl, rfl⟩ := Prod.mk.inj (Option.some.inj hf)
        exact kr H locs ls 28 dX10_spent_28 hP hS
set_option maxHeartbeats 4000000 in
set_option maxRecDepth 100000 in
theorem c_X10_spent (hj : jR ad) (l : Launch) (N : Nat) (x1 : Int32) (x2 : Int32) (f : mM) (t : Int64) (r : Int32) (fR : mM) (hf : q_X10_spent N x1 x2 f = some (r, fR)) : Met l yX10_spent wsX10_spent ({ frames := 2, cells := 0, slots := 0, locals := 43 }) (va_Pc ([.ref (ad 0), .int x1, .int x2]) (pre D cy (wR ad cy) (xR) f t)) (va_Qi (fun (r2 : Int32) (u : mM × Int64) => r2 = r ∧ u = (fR, t)) (atW D (wR ad cy)) (aR ad)) 0 0 (aR ad) := by
  refine Met.ofW (cc := cX10_spent) (maxL := 5) (ret := (some .int)) (by decide) rfl ?_
  intro p e s m args below meth c s₁ B hml hv
  obtain ⟨rfl, hP, hK, hX0⟩ := hv
  have hl := lv_entry ([.ref (ad 0), .int x1, .int x2]) (n := 5) (Nat.le_of_ble_eq_true rfl)
  rw [lg_entry_eq]
  generalize (lg_sl ([.ref (ad 0), .int x1, .int x2]) ++ List.replicate (5 - (lg_sl ([.ref (ad 0), .int x1, .int x2])).length) Slot.unset).toArray = ls at hl ⊢
  have hlocks := B.notSynchronized
  exact b_X10_spent ⟨B.exec, B.bytes, B.returns, hml, findClass_of_methodNamed B.named, atoms_spec (ws := wsX10_spent) B.pre, hlocks, hK, hX0⟩ hj ⟨Nat.le_refl _, Nat.le_refl _⟩ N x1 x2 f t r fR hf (fun H locs ls pc hd hP hS => W.iret B.exec B.bytes B.returns (fun t2 ht hW => ⟨⟨r, (fR, t), rfl, ⟨rfl, rfl⟩, by show va_P D vwCl _ t2.heap; rw [ht]; exact hP⟩, hS.F ht⟩) hS.2.2 hd) s.heap [] ls hP va_S.rf hl
def lp_X10_waysToTell_2 (N : Nat) (x1 : Int32) : Nat → Int32 → mM → Option (mM)
  | 0, _, _ => none
  | n + 1, x2, f => if 10 ≤ x2 then some f else sq (fun (v1 : Int32) => gi x2 10 (sq (st2 f 18 (Int32.toNatClampNeg x2) v1) (fun f4 => sq (x2 + 1) (fun x2_5 => lp_X10_waysToTell_2 N x1 n x2_5 f4)))) (fun k2 => if x2 = 0 then k2 1 else k2 0)
theorem lp_X10_waysToTell_2_s (N : Nat) (x1 : Int32) (n : Nat) (x2 : Int32) (f : mM) : lp_X10_waysToTell_2 N x1 (n + 1) x2 f = (if 10 ≤ x2 then some f else sq (fun (v1 : Int32) => gi x2 10 (sq (st2 f 18 (Int32.toNatClampNeg x2) v1) (fun f4 => sq (x2 + 1) (fun x2_5 => lp_X10_waysToTell_2 N x1 n x2_5 f4)))) (fun k2 => if x2 = 0 then k2 1 else k2 0)) := rfl
set_option maxHeartbeats 4000000 in
set_option maxRecDepth 100000 in
theorem lp_X10_waysToTell_2_w (C0 : cX p s m args meth c cX10_waysToTell 4 (some .int) RX10 wsX10_waysToTell D cy (xR)) (hj : jR ad) (hR : 0 ≤ R.frames ∧ 0 ≤ R.locals) (N : Nat) (x1 : Int32) (t : Int64) (fR : mM) (kx29 : ∀ (H : Heap) (locs : List Loc) (ls : Array Slot), va_P D vwCl (wR ad cy fR t) H → va_S (aR ad) s.heap H locs → lv_has ls 4 [(0, .ref (ad 0)), (1, .int x1)] → W p l e R s m args below meth c H locs 0 0 Q (F0 m 29 ls [])) : ∀ (n : Nat) (x2 : Int32) (f : mM), lp_X10_waysToTell_2 N x1 n x2 f = some fR → ∀ (H : Heap) (locs : List Loc) (ls : Array Slot), va_P D vwCl (wR ad cy f t) H → va_S (aR ad) s.heap H locs → lv_has ls 4 [(0, .ref (ad 0)), (1, .int x1), (2, .int x2)] → W p l e R s m args below meth c H locs 0 0 Q (F0 m 2 ls []) := by
  obtain ⟨hx, hb, hr, hml, hown, hts, hlocks, hK, hX0⟩ := id C0
  have lk62 := hts (.fieldLink RX10 62 "PlankNineModel" "sums" "[I") (List.mem_of_getElem? (i := 1) rfl)
  have hiX10 : ∀ w ∈ u_ws RX10 TX10 34, w ∈ wsX10_waysToTell := fun w h => List.mem_cons_of_mem _ (List.mem_append_right _ h)
  intro n
  induction n with
  | zero =>
    intro x2 f hf
    exact no_none hf
  | succ n ih =>
    intro x2 f hf H locs ls hP hS hl
    have hf := (lp_X10_waysToTell_2_s N x1 n x2 f).symm.trans hf
    refine lv_iload_n hx hb dX10_waysToTell_2 rfl (lv_at hl 2 rfl) ?_
    refine lv_bipush (v := 10) hx hb dX10_waysToTell_3 (by decide) ?_
    refine lv_icmp_ge (tgt := 29) hx hb dX10_waysToTell_5 (by decide) (fun c5 => ?_) (fun c5 => ?_)
    · have hf := itT hf c5
      obtain rfl := Option.some.inj hf
      exact kx29 H locs ls hP hS (lv_sub hl [0, 1] rfl)
    · have hf := itF hf c5
      refine lv_aload_n hx hb dX10_waysToTell_8 rfl (lv_at hl 0 rfl) ?_
      refine va_get (D := D) (ci := 10) (v := .ref (ad 18)) (C := RX10) (T := TX10) (N := 34) hx hb hts hiX10 hown hK hP 0 rfl rfl 33 (by decide) lk62 (fun _ h9 => h9) rfl dX10_waysToTell_9 ?_
      refine lv_iload_n hx hb dX10_waysToTell_12 rfl (lv_at hl 2 rfl) ?_
      refine lv_iload_n hx hb dX10_waysToTell_13 rfl (lv_at hl 2 rfl) ?_
      obtain ⟨k2, ek2, hf⟩ := sq_out hf
      have hk2 : ∀ (v1 : Int32), k2 v1 = some fR → ∀ (H : Heap) (locs : List Loc) (ls : Array Slot), va_P D vwCl (wR ad cy f t) H → va_S (aR ad) s.heap H locs → lv_has ls 4 [(0, .ref (ad 0)), (1, .int x1), (2, .int x2)] → W p l e R s m args below meth c H locs 0 0 Q (F0 m 22 ls [.int v1, .int x2, .ref (ad 18)]) := by
        intro v1 hf H locs ls hP hS hl
        have hf := sk1 ek2 v1 hf
        obtain ⟨hin3, hf⟩ := gi_out hf
        obtain ⟨f4, ef4, hf⟩ := sq_out hf
        refine va_iast hx hb hK hP (dR hj f t) hS 18 1 rfl rfl hin3 dX10_waysToTell_22 (fun H locs hP _ hS => ?_)
        have hP := sR_18 ef4 hP
        obtain ⟨x2_5, ex2_5, hf⟩ := sq_out hf
        refine lv_iinc (v := x2_5) (lv' := [(2, .int x2_5), (0, .ref (ad 0)), (1, .int x1)]) hx hb dX10_waysToTell_23 hl (k := 2) rfl (by rw [ex2_5]; rfl) (by decide) rfl (fun ls hl => ?_)
        refine lv_goto (tgt := 2) hx hb dX10_waysToTell_26 (by decide) ?_
        exact ih x2_5 f4 hf H locs ls hP hS (lv_sub hl [1, 2, 0] rfl)
      refine lv_if_ne (tgt := 21) hx hb dX10_waysToTell_14 (by decide) (fun c14 => ?_) (fun c14 => ?_)
      · have hf := itF hf c14
        refine lv_iconst (v := 0) hx hb dX10_waysToTell_21 (by decide) ?_
        exact hk2 0 hf H locs ls hP hS (lv_sub hl [0, 1, 2] rfl)
      · have hf := itT hf c14
        refine lv_iconst (v := 1) hx hb dX10_waysToTell_17 (by decide) ?_
        refine lv_goto (tgt := 22) hx hb dX10_waysToTell_18 (by decide) ?_
        exact hk2 1 hf H locs ls hP hS (lv_sub hl [0, 1, 2] rfl)
def lp_X10_waysToTell_46 (N : Nat) (x1 : Int32) (x2 : Int32) : Nat → Int32 → mM → Option (mM)
  | 0, _, _ => none
  | n + 1, x3, f => if 10 ≤ x3 then some f else gi x3 10 (gi x2 8 (gi (x3 - (f 5 (Int32.toNatClampNeg x2))) 10 (gi x3 10 (sq (st2 f 18 (Int32.toNatClampNeg x3) ((f 18 (Int32.toNatClampNeg x3)) + (f 18 (Int32.toNatClampNeg (x3 - (f 5 (Int32.toNatClampNeg x2))))))) (fun f14 => sq (x3 + 1) (fun x3_15 => lp_X10_waysToTell_46 N x1 x2 n x3_15 f14))))))
theorem lp_X10_waysToTell_46_s (N : Nat) (x1 : Int32) (x2 : Int32) (n : Nat) (x3 : Int32) (f : mM) : lp_X10_waysToTell_46 N x1 x2 (n + 1) x3 f = (if 10 ≤ x3 then some f else gi x3 10 (gi x2 8 (gi (x3 - (f 5 (Int32.toNatClampNeg x2))) 10 (gi x3 10 (sq (st2 f 18 (Int32.toNatClampNeg x3) ((f 18 (Int32.toNatClampNeg x3)) + (f 18 (Int32.toNatClampNeg (x3 - (f 5 (Int32.toNatClampNeg x2))))))) (fun f14 => sq (x3 + 1) (fun x3_15 => lp_X10_waysToTell_46 N x1 x2 n x3_15 f14))))))) := rfl
set_option maxHeartbeats 4000000 in
set_option maxRecDepth 100000 in
theorem lp_X10_waysToTell_46_w (C0 : cX p s m args meth c cX10_waysToTell 4 (some .int) RX10 wsX10_waysToTell D cy (xR)) (hj : jR ad) (hR : 0 ≤ R.frames ∧ 0 ≤ R.locals) (N : Nat) (x1 : Int32) (x2 : Int32) (t : Int64) (fR : mM) (kx80 : ∀ (H : Heap) (locs : List Loc) (ls : Array Slot), va_P D vwCl (wR ad cy fR t) H → va_S (aR ad) s.heap H locs → lv_has ls 4 [(0, .ref (ad 0)), (1, .int x1), (2, .int x2)] → W p l e R s m args below meth c H locs 0 0 Q (F0 m 80 ls [])) : ∀ (n : Nat) (x3 : Int32) (f : mM), lp_X10_waysToTell_46 N x1 x2 n x3 f = some fR → ∀ (H : Heap) (locs : List Loc) (ls : Array Slot), va_P D vwCl (wR ad cy f t) H → va_S (aR ad) s.heap H locs → lv_has ls 4 [(0, .ref (ad 0)), (1, .int x1), (2, .int x2), (3, .int x3)] → W p l e R s m args below meth c H locs 0 0 Q (F0 m 46 ls []) := by
  obtain ⟨hx, hb, hr, hml, hown, hts, hlocks, hK, hX0⟩ := id C0
  have lk62 := hts (.fieldLink RX10 62 "PlankNineModel" "sums" "[I") (List.mem_of_getElem? (i := 1) rfl)
  have hiX10 : ∀ w ∈ u_ws RX10 TX10 34, w ∈ wsX10_waysToTell := fun w h => List.mem_cons_of_mem _ (List.mem_append_right _ h)
  have lk22 := hts (.fieldLink RX10 22 "PlankNineModel" "weight" "[I") (List.mem_of_getElem? (i := 3) rfl)
  intro n
  induction n with
  | zero =>
    intro x3 f hf
    exact no_none hf
  | succ n ih =>
    intro x3 f hf H locs ls hP hS hl
    have hf := (lp_X10_waysToTell_46_s N x1 x2 n x3 f).symm.trans hf
    refine lv_iload_n hx hb dX10_waysToTell_46 rfl (lv_at hl 3 rfl) ?_
    refine lv_bipush (v := 10) hx hb dX10_waysToTell_47 (by decide) ?_
    refine lv_icmp_ge (tgt := 80) hx hb dX10_waysToTell_49 (by decide) (fun c49 => ?_) (fun c49 => ?_)
    · have hf := itT hf c49
      obtain rfl := Option.some.inj hf
      exact kx80 H locs ls hP hS (lv_sub hl [0, 1, 2] rfl)
    · have hf := itF hf c49
      refine lv_aload_n hx hb dX10_waysToTell_52 rfl (lv_at hl 0 rfl) ?_
      refine va_get (D := D) (ci := 10) (v := .ref (ad 18)) (C := RX10) (T := TX10) (N := 34) hx hb hts hiX10 hown hK hP 0 rfl rfl 33 (by decide) lk62 (fun _ h9 => h9) rfl dX10_waysToTell_53 ?_
      refine lv_iload_n hx hb dX10_waysToTell_56 rfl (lv_at hl 3 rfl) ?_
      refine lv_dup2_11 hx hb dX10_waysToTell_57 rfl rfl ?_
      obtain ⟨hin10, hf⟩ := gi_out hf
      refine va_iald hx hb hK hP 18 1 rfl rfl hin10 dX10_waysToTell_58 ?_
      refine lv_aload_n hx hb dX10_waysToTell_59 rfl (lv_at hl 0 rfl) ?_
      refine va_get (D := D) (ci := 10) (v := .ref (ad 18)) (C := RX10) (T := TX10) (N := 34) hx hb hts hiX10 hown hK hP 0 rfl rfl 33 (by decide) lk62 (fun _ h9 => h9) rfl dX10_waysToTell_60 ?_
      refine lv_iload_n hx hb dX10_waysToTell_63 rfl (lv_at hl 3 rfl) ?_
      refine lv_aload_n hx hb dX10_waysToTell_64 rfl (lv_at hl 0 rfl) ?_
      refine va_get (D := D) (ci := 10) (v := .ref (ad 5)) (C := RX10) (T := TX10) (N := 34) hx hb hts hiX10 hown hK hP 0 rfl rfl 12 (by decide) lk22 (fun _ h9 => h9) rfl dX10_waysToTell_65 ?_
      refine lv_iload_n hx hb dX10_waysToTell_68 rfl (lv_at hl 2 rfl) ?_
      obtain ⟨hin11, hf⟩ := gi_out hf
      refine va_iald hx hb hK hP 5 1 rfl rfl hin11 dX10_waysToTell_69 ?_
      refine lv_isub hx hb dX10_waysToTell_70 ?_
      obtain ⟨hin12, hf⟩ := gi_out hf
      refine va_iald hx hb hK hP 18 1 rfl rfl hin12 dX10_waysToTell_71 ?_
      refine lv_iadd hx hb dX10_waysToTell_72 ?_
      obtain ⟨hin13, hf⟩ := gi_out hf
      obtain ⟨f14, ef14, hf⟩ := sq_out hf
      refine va_iast hx hb hK hP (dR hj f t) hS 18 1 rfl rfl hin13 dX10_waysToTell_73 (fun H locs hP _ hS => ?_)
      have hP := sR_18 ef14 hP
      obtain ⟨x3_15, ex3_15, hf⟩ := sq_out hf
      refine lv_iinc (v := x3_15) (lv' := [(3, .int x3_15), (0, .ref (ad 0)), (1, .int x1), (2, .int x2)]) hx hb dX10_waysToTell_74 hl (k := 3) rfl (by rw [ex3_15]; rfl) (by decide) rfl (fun ls hl => ?_)
      refine lv_goto (tgt := 46) hx hb dX10_waysToTell_77 (by decide) ?_
      exact ih x3_15 f14 hf H locs ls hP hS (lv_sub hl [1, 2, 3, 0] rfl)
def lp_X10_waysToTell_31 (N : Nat) (x1 : Int32) : Nat → Int32 → mM → Option (mM)
  | 0, _, _ => none
  | n + 1, x2, f => if (f 0 17) ≤ x2 then some f else gi x2 8 (sq (f 5 (Int32.toNatClampNeg x2)) (fun x3_9 => bi (lp_X10_waysToTell_46 N x1 x2 N x3_9 f) (fun f16 => sq (x2 + 1) (fun x2_18 => lp_X10_waysToTell_31 N x1 n x2_18 f16))))
theorem lp_X10_waysToTell_31_s (N : Nat) (x1 : Int32) (n : Nat) (x2 : Int32) (f : mM) : lp_X10_waysToTell_31 N x1 (n + 1) x2 f = (if (f 0 17) ≤ x2 then some f else gi x2 8 (sq (f 5 (Int32.toNatClampNeg x2)) (fun x3_9 => bi (lp_X10_waysToTell_46 N x1 x2 N x3_9 f) (fun f16 => sq (x2 + 1) (fun x2_18 => lp_X10_waysToTell_31 N x1 n x2_18 f16))))) := rfl
set_option maxHeartbeats 4000000 in
set_option maxRecDepth 100000 in
theorem lp_X10_waysToTell_31_w (C0 : cX p s m args meth c cX10_waysToTell 4 (some .int) RX10 wsX10_waysToTell D cy (xR)) (hj : jR ad) (hR : 0 ≤ R.frames ∧ 0 ≤ R.locals) (N : Nat) (x1 : Int32) (t : Int64) (fR : mM) (kx86 : ∀ (H : Heap) (locs : List Loc) (ls : Array Slot), va_P D vwCl (wR ad cy fR t) H → va_S (aR ad) s.heap H locs → lv_has ls 4 [(0, .ref (ad 0)), (1, .int x1)] → W p l e R s m args below meth c H locs 0 0 Q (F0 m 86 ls [])) : ∀ (n : Nat) (x2 : Int32) (f : mM), lp_X10_waysToTell_31 N x1 n x2 f = some fR → ∀ (H : Heap) (locs : List Loc) (ls : Array Slot), va_P D vwCl (wR ad cy f t) H → va_S (aR ad) s.heap H locs → lv_has ls 4 [(0, .ref (ad 0)), (1, .int x1), (2, .int x2)] → W p l e R s m args below meth c H locs 0 0 Q (F0 m 31 ls []) := by
  obtain ⟨hx, hb, hr, hml, hown, hts, hlocks, hK, hX0⟩ := id C0
  have lk151 := hts (.fieldLink RX10 151 "PlankNineModel" "people" "I") (List.mem_of_getElem? (i := 2) rfl)
  have hiX10 : ∀ w ∈ u_ws RX10 TX10 34, w ∈ wsX10_waysToTell := fun w h => List.mem_cons_of_mem _ (List.mem_append_right _ h)
  have lk22 := hts (.fieldLink RX10 22 "PlankNineModel" "weight" "[I") (List.mem_of_getElem? (i := 3) rfl)
  intro n
  induction n with
  | zero =>
    intro x2 f hf
    exact no_none hf
  | succ n ih =>
    intro x2 f hf H locs ls hP hS hl
    have hf := (lp_X10_waysToTell_31_s N x1 n x2 f).symm.trans hf
    refine lv_iload_n hx hb dX10_waysToTell_31 rfl (lv_at hl 2 rfl) ?_
    refine lv_aload_n hx hb dX10_waysToTell_32 rfl (lv_at hl 0 rfl) ?_
    refine va_get (D := D) (ci := 10) (v := .int (f 0 17)) (C := RX10) (T := TX10) (N := 34) hx hb hts hiX10 hown hK hP 0 rfl rfl 17 (by decide) lk151 (fun _ h9 => h9) rfl dX10_waysToTell_33 ?_
    refine lv_icmp_ge (tgt := 86) hx hb dX10_waysToTell_36 (by decide) (fun c36 => ?_) (fun c36 => ?_)
    · have hf := itT hf c36
      obtain rfl := Option.some.inj hf
      exact kx86 H locs ls hP hS (lv_sub hl [0, 1] rfl)
    · have hf := itF hf c36
      refine lv_aload_n hx hb dX10_waysToTell_39 rfl (lv_at hl 0 rfl) ?_
      refine va_get (D := D) (ci := 10) (v := .ref (ad 5)) (C := RX10) (T := TX10) (N := 34) hx hb hts hiX10 hown hK hP 0 rfl rfl 12 (by decide) lk22 (fun _ h9 => h9) rfl dX10_waysToTell_40 ?_
      refine lv_iload_n hx hb dX10_waysToTell_43 rfl (lv_at hl 2 rfl) ?_
      obtain ⟨hin8, hf⟩ := gi_out hf
      refine va_iald hx hb hK hP 5 1 rfl rfl hin8 dX10_waysToTell_44 ?_
      obtain ⟨x3_9, ex3_9, hf⟩ := sq_out hf
      refine lv_nmi ex3_9 ?_
      refine lv_istore_n (lv' := [(3, .int x3_9), (0, .ref (ad 0)), (1, .int x1), (2, .int x2)]) hx hb dX10_waysToTell_45 rfl hl (by decide) rfl (fun ls hl => ?_)
      obtain ⟨f16, hlp17, hf⟩ := bi_out hf
      refine lp_X10_waysToTell_46_w C0 hj hR N x1 x2 t f16 ?_ N x3_9 f hlp17 H locs ls hP hS (lv_sub hl [1, 2, 3, 0] rfl)
      intro H locs ls hP hS hl
      obtain ⟨x2_18, ex2_18, hf⟩ := sq_out hf
      refine lv_iinc (v := x2_18) (lv' := [(2, .int x2_18), (0, .ref (ad 0)), (1, .int x1)]) hx hb dX10_waysToTell_80 hl (k := 2) rfl (by rw [ex2_18]; rfl) (by decide) rfl (fun ls hl => ?_)
      refine lv_goto (tgt := 31) hx hb dX10_waysToTell_83 (by decide) ?_
      exact ih x2_18 f16 hf H locs ls hP hS (lv_sub hl [1, 2, 0] rfl)
def q_X10_waysToTell (N : Nat) (x1 : Int32) (f : mM) : Option (Int32 × mM) := bi (lp_X10_waysToTell_2 N x1 N 0 f) (fun f6 => bi (lp_X10_waysToTell_31 N x1 N 0 f6) (fun f19 => gi x1 10 (some ((f19 18 (Int32.toNatClampNeg x1)), f19))))
set_option maxHeartbeats 4000000 in
set_option maxRecDepth 100000 in
theorem b_X10_waysToTell (C0 : cX p s m args meth c cX10_waysToTell 4 (some .int) RX10 wsX10_waysToTell D cy (xR)) (hj : jR ad) (hR : 0 ≤ R.frames ∧ 0 ≤ R.locals) (N : Nat) (x1 : Int32) (f : mM) (t : Int64) (r : Int32) (fR : mM) (hf : q_X10_waysToTell N x1 f = some (r, fR)) (kr : ∀ (H : Heap) (locs : List Loc) (ls : Array Slot) (pc : Nat), decode cX10_waysToTell pc = .ok (.ireturn, 1) → va_P D vwCl (wR ad cy fR t) H → va_S (aR ad) s.heap H locs → W p l e R s m args below meth c H locs 0 0 Q (F0 m pc ls [.int r])) (H : Heap) (locs : List Loc) (ls : Array Slot) (hP : va_P D vwCl (wR ad cy f t) H) (hS : va_S (aR ad) s.heap H locs) (hl : lv_has ls 4 [(0, .ref (ad 0)), (1, .int x1)]) : W p l e R s m args below meth c H locs 0 0 Q (F0 m 0 ls []) := by
  obtain ⟨hx, hb, hr, hml, hown, hts, hlocks, hK, hX0⟩ := id C0
  have lk62 := hts (.fieldLink RX10 62 "PlankNineModel" "sums" "[I") (List.mem_of_getElem? (i := 1) rfl)
  have hiX10 : ∀ w ∈ u_ws RX10 TX10 34, w ∈ wsX10_waysToTell := fun w h => List.mem_cons_of_mem _ (List.mem_append_right _ h)
  unfold q_X10_waysToTell at hf
  refine lv_iconst (v := 0) hx hb dX10_waysToTell_0 (by decide) ?_
  refine lv_istore_n (lv' := [(2, .int 0), (0, .ref (ad 0)), (1, .int x1)]) hx hb dX10_waysToTell_1 rfl hl (by decide) rfl (fun ls hl => ?_)
  obtain ⟨f6, hlp7, hf⟩ := bi_out hf
  refine lp_X10_waysToTell_2_w C0 hj hR N x1 t f6 ?_ N 0 f hlp7 H locs ls hP hS (lv_sub hl [1, 2, 0] rfl)
  intro H locs ls hP hS hl
  refine lv_iconst (v := 0) hx hb dX10_waysToTell_29 (by decide) ?_
  refine lv_istore_n (lv' := [(2, .int 0), (0, .ref (ad 0)), (1, .int x1)]) hx hb dX10_waysToTell_30 rfl hl (by decide) rfl (fun ls hl => ?_)
  obtain ⟨f19, hlp20, hf⟩ := bi_out hf
  refine lp_X10_waysToTell_31_w C0 hj hR N x1 t f19 ?_ N 0 f6 hlp20 H locs ls hP hS (lv_sub hl [1, 2, 0] rfl)
  intro H locs ls hP hS hl
  refine lv_aload_n hx hb dX10_waysToTell_86 rfl (lv_at hl 0 rfl) ?_
  refine va_get (D := D) (ci := 10) (v := .ref (ad 18)) (C := RX10) (T := TX10) (N := 34) hx hb hts hiX10 hown hK hP 0 rfl rfl 33 (by decide) lk62 (fun _ h9 => h9) rfl dX10_waysToTell_87 ?_
  refine lv_iload_n hx hb dX10_waysToTell_90 rfl (lv_at hl 1 rfl) ?_
  obtain ⟨hin21, hf⟩ := gi_out hf
  refine va_iald hx hb hK hP 18 1 rfl rfl hin21 dX10_waysToTell_91 ?_
  obtain ⟨rfl, rfl⟩ := Prod.mk.inj (Option.some.inj hf)
  exact kr H locs ls 92 dX10_waysToTell_92 hP hS
set_option maxHeartbeats 4000000 in
set_option maxRecDepth 100000 in
theorem c_X10_waysToTell (hj : jR ad) (l : Launch) (N : Nat) (x1 : Int32) (f : mM) (t : Int64) (r : Int32) (fR : mM) (hf : q_X10_waysToTell N x1 f = some (r, fR)) : Met l yX10_waysToTell wsX10_waysToTell ({ frames := 0, cells := 0, slots := 0, locals := 0 }) (va_Pc ([.ref (ad 0), .int x1]) (pre D cy (wR ad cy) (xR) f t)) (va_Qi (fun (r2 : Int32) (u : mM × Int64) => r2 = r ∧ u = (fR, t)) (atW D (wR ad cy)) (aR ad)) 0 0 (aR ad) := by
  refine Met.ofW (cc := cX10_waysToTell) (maxL := 4) (ret := (some .int)) (by decide) rfl ?_
  intro p e s m args below meth c s₁ B hml hv
  obtain ⟨rfl, hP, hK, hX0⟩ := hv
  have hl := lv_entry ([.ref (ad 0), .int x1]) (n := 4) (Nat.le_of_ble_eq_true rfl)
  rw [lg_entry_eq]
  generalize (lg_sl ([.ref (ad 0), .int x1]) ++ List.replicate (4 - (lg_sl ([.ref (ad 0), .int x1])).length) Slot.unset).toArray = ls at hl ⊢
  have hlocks := B.notSynchronized
  exact b_X10_waysToTell ⟨B.exec, B.bytes, B.returns, hml, findClass_of_methodNamed B.named, atoms_spec (ws := wsX10_waysToTell) B.pre, hlocks, hK, hX0⟩ hj ⟨Nat.le_refl _, Nat.le_refl _⟩ N x1 f t r fR hf (fun H locs ls pc hd hP hS => W.iret B.exec B.bytes B.returns (fun t2 ht hW => ⟨⟨r, (fR, t), rfl, ⟨rfl, rfl⟩, by show va_P D vwCl _ t2.heap; rw [ht]; exact hP⟩, hS.F ht⟩) hS.2.2 hd) s.heap [] ls hP va_S.rf hl
def lp_X10_tell_36 (N : Nat) (x1 : Int32) : Nat → Int64 → Int32 → mM → Option (Int64 × mM)
  | 0, _, _, _ => none
  | n + 1, x2, x4, f => if (f 0 16) ≤ x4 then some (x2, f) else bi (q_X10_spentOf x1 x4 f) (fun y5 => bi2 (q_X10_waysToTell N y5 f) (fun y7 f8 => sq (x2 * (Int32.toInt64 y7)) (fun x2_10 => sq (x4 + 1) (fun x4_11 => lp_X10_tell_36 N x1 n x2_10 x4_11 f8))))
theorem lp_X10_tell_36_s (N : Nat) (x1 : Int32) (n : Nat) (x2 : Int64) (x4 : Int32) (f : mM) : lp_X10_tell_36 N x1 (n + 1) x2 x4 f = (if (f 0 16) ≤ x4 then some (x2, f) else bi (q_X10_spentOf x1 x4 f) (fun y5 => bi2 (q_X10_waysToTell N y5 f) (fun y7 f8 => sq (x2 * (Int32.toInt64 y7)) (fun x2_10 => sq (x4 + 1) (fun x4_11 => lp_X10_tell_36 N x1 n x2_10 x4_11 f8))))) := rfl
set_option maxHeartbeats 4000000 in
set_option maxRecDepth 100000 in
theorem lp_X10_tell_36_w (C0 : cX p s m args meth c cX10_tell 5 (some .long) RX10 wsX10_tell D cy (xR)) (hj : jR ad) (hR : 1 ≤ R.frames ∧ 23 ≤ R.locals) (N : Nat) (x1 : Int32) (t : Int64) (r2 : Int64) (fR : mM) (kx66 : ∀ (H : Heap) (locs : List Loc) (ls : Array Slot), va_P D vwCl (wR ad cy fR t) H → va_S (aR ad) s.heap H locs → lv_has ls 5 [(2, .long r2)] → W p l e R s m args below meth c H locs 0 0 Q (F0 m 66 ls [])) : ∀ (n : Nat) (x2 : Int64) (x4 : Int32) (f : mM), lp_X10_tell_36 N x1 n x2 x4 f = some (r2, fR) → ∀ (H : Heap) (locs : List Loc) (ls : Array Slot), va_P D vwCl (wR ad cy f t) H → va_S (aR ad) s.heap H locs → lv_has ls 5 [(0, .ref (ad 0)), (1, .int x1), (2, .long x2), (4, .int x4)] → W p l e R s m args below meth c H locs 0 0 Q (F0 m 36 ls []) := by
  obtain ⟨hx, hb, hr, hml, hown, hts, hlocks, hK, hX0⟩ := id C0
  have lk148 := hts (.fieldLink RX10 148 "PlankNineModel" "planks" "I") (List.mem_of_getElem? (i := 5) rfl)
  have hiX10 : ∀ w ∈ u_ws RX10 TX10 34, w ∈ wsX10_tell := fun w h => List.mem_cons_of_mem _ (List.mem_append_right _ h)
  intro n
  induction n with
  | zero =>
    intro x2 x4 f hf
    exact no_none hf
  | succ n ih =>
    intro x2 x4 f hf H locs ls hP hS hl
    have hf := (lp_X10_tell_36_s N x1 n x2 x4 f).symm.trans hf
    refine lv_iload hx hb dX10_tell_36 (lv_at hl 3 rfl) ?_
    refine lv_aload_n hx hb dX10_tell_38 rfl (lv_at hl 0 rfl) ?_
    refine va_get (D := D) (ci := 10) (v := .int (f 0 16)) (C := RX10) (T := TX10) (N := 34) hx hb hts hiX10 hown hK hP 0 rfl rfl 16 (by decide) lk148 (fun _ h9 => h9) rfl dX10_tell_39 ?_
    refine lv_icmp_ge (tgt := 66) hx hb dX10_tell_42 (by decide) (fun c42 => ?_) (fun c42 => ?_)
    · have hf := itT hf c42
      have hg_0 := Option.some.inj hf
      obtain ⟨rfl, rfl⟩ := Prod.mk.inj hg_0
      exact kx66 H locs ls hP hS (lv_sub hl [2] rfl)
    · have hf := itF hf c42
      refine lv_lload_n hx hb dX10_tell_45 rfl (lv_at hl 2 rfl) ?_
      refine lv_aload_n hx hb dX10_tell_46 rfl (lv_at hl 0 rfl) ?_
      refine lv_aload_n hx hb dX10_tell_47 rfl (lv_at hl 0 rfl) ?_
      refine lv_iload_n hx hb dX10_tell_48 rfl (lv_at hl 1 rfl) ?_
      refine lv_iload hx hb dX10_tell_49 (lv_at hl 3 rfl) ?_
      obtain ⟨y5, hq6, hf⟩ := bi_out hf
      refine cw_vi (As := [.int x1, .int x4]) (rest := [.ref (ad 0), .long x2]) ⟨hx, hb, hml, hown, hts⟩ xR_S hK hX0 hS hP (c_X10_spentOf hj l x1 x4 f t y5 hq6) (cwV 2 hts gX10_tell_X10_spentOf rfl rfl rfl (by decide +kernel) ⟨Nat.le_trans (Nat.le_of_ble_eq_true rfl) hR.1, Nat.le_trans (Nat.le_of_ble_eq_true rfl) hR.2⟩) (va_recv hK hP (ci := 10) (q0 := 0) rfl rfl) rfl hl.1 rfl (Nat.le_of_ble_eq_true rfl) ⟨Nat.zero_le _, Nat.zero_le _⟩ dX10_tell_51 (fun H locs hP hS => ?_)
      obtain ⟨y7, f8, hq9, hf⟩ := bi2_out hf
      refine cw_vi (As := [.int y5]) (rest := [.long x2]) ⟨hx, hb, hml, hown, hts⟩ xR_S hK hX0 hS hP (c_X10_waysToTell hj l N y5 f t y7 f8 hq9) (cwV 1 hts gX10_tell_X10_waysToTell rfl rfl rfl (by decide +kernel) ⟨Nat.le_trans (Nat.le_of_ble_eq_true rfl) hR.1, Nat.le_trans (Nat.le_of_ble_eq_true rfl) hR.2⟩) (va_recv hK hP (ci := 10) (q0 := 0) rfl rfl) rfl hl.1 rfl (Nat.le_of_ble_eq_true rfl) ⟨Nat.zero_le _, Nat.zero_le _⟩ dX10_tell_54 (fun H locs hP hS => ?_)
      refine lv_i2l hx hb dX10_tell_57 rfl ?_
      refine lv_lmul hx hb dX10_tell_58 ?_
      obtain ⟨x2_10, ex2_10, hf⟩ := sq_out hf
      refine lv_nml ex2_10 ?_
      refine lv_lstore_n (lv' := [(2, .long x2_10), (0, .ref (ad 0)), (1, .int x1), (4, .int x4)]) hx hb dX10_tell_59 rfl hl (by decide) rfl (fun ls hl => ?_)
      obtain ⟨x4_11, ex4_11, hf⟩ := sq_out hf
      refine lv_iinc (v := x4_11) (lv' := [(4, .int x4_11), (2, .long x2_10), (0, .ref (ad 0)), (1, .int x1)]) hx hb dX10_tell_60 hl (k := 3) rfl (by rw [ex4_11]; rfl) (by decide) rfl (fun ls hl => ?_)
      refine lv_goto (tgt := 36) hx hb dX10_tell_63 (by decide) ?_
      exact ih x2_10 x4_11 f8 hf H locs ls hP hS (lv_sub hl [2, 3, 1, 0] rfl)
def q_X10_tell (N : Nat) (x1 : Int32) (f : mM) : Option (Int64 × mM) := sq (st2 f 0 0 0) (fun f1 => bi (q_X10_in x1 0 1) (fun y2 => if y2 = 0 then some ((-1), f1) else gi x1 2 (if (f1 10 (Int32.toNatClampNeg x1)) = 0 then some ((-2), f1) else bi2 (lp_X10_tell_36 N x1 N 1 0 f1) (fun y12 f13 => some (y12, f13)))))
set_option maxHeartbeats 4000000 in
set_option maxRecDepth 100000 in
theorem b_X10_tell (C0 : cX p s m args meth c cX10_tell 5 (some .long) RX10 wsX10_tell D cy (xR)) (hj : jR ad) (hR : 1 ≤ R.frames ∧ 23 ≤ R.locals) (N : Nat) (x1 : Int32) (f : mM) (t : Int64) (r : Int64) (fR : mM) (hf : q_X10_tell N x1 f = some (r, fR)) (kr : ∀ (H : Heap) (locs : List Loc) (ls : Array Slot) (pc : Nat), decode cX10_tell pc = .ok (.lreturn, 1) → va_P D vwCl (wR ad cy fR t) H → va_S (aR ad) s.heap H locs → W p l e R s m args below meth c H locs 0 0 Q (F0 m pc ls [.long r])) (H : Heap) (locs : List Loc) (ls : Array Slot) (hP : va_P D vwCl (wR ad cy f t) H) (hS : va_S (aR ad) s.heap H locs) (hl : lv_has ls 5 [(0, .ref (ad 0)), (1, .int x1)]) : W p l e R s m args below meth c H locs 0 0 Q (F0 m 0 ls []) := by
  obtain ⟨hx, hb, hr, hml, hown, hts, hlocks, hK, hX0⟩ := id C0
  have lk69 := hts (.fieldLink RX10 69 "PlankNineModel" "thrown" "I") (List.mem_of_getElem? (i := 1) rfl)
  have hiX10 : ∀ w ∈ u_ws RX10 TX10 34, w ∈ wsX10_tell := fun w h => List.mem_cons_of_mem _ (List.mem_append_right _ h)
  have lk37 := hts (.fieldLink RX10 37 "PlankNineModel" "isKept" "[Z") (List.mem_of_getElem? (i := 3) rfl)
  unfold q_X10_tell at hf
  refine lv_aload_n hx hb dX10_tell_0 rfl (lv_at hl 0 rfl) ?_
  refine lv_iconst (v := 0) hx hb dX10_tell_1 (by decide) ?_
  obtain ⟨f1, ef1, hf⟩ := sq_out hf
  refine va_put (D := D) (ci := 10) (v := .int 0) (ty := .int) (C := RX10) (T := TX10) (N := 34) hx hb hts hiX10 tyX10 tyX10_ok nmX10 hown hK hP (dR hj f t) hS 0 rfl rfl 0 (by decide) lk69 (fun _ h9 => h9) rfl (by decide +kernel) rfl rfl (Nat.le_of_ble_eq_true rfl) dX10_tell_2 (fun H locs hP _ hS => ?_)
  have hP := sR_0_0 ef1 hP
  refine lv_iload_n hx hb dX10_tell_5 rfl (lv_at hl 1 rfl) ?_
  refine lv_iconst (v := 0) hx hb dX10_tell_6 (by decide) ?_
  refine lv_iconst (v := 1) hx hb dX10_tell_7 (by decide) ?_
  obtain ⟨y2, hq3, hf⟩ := bi_out hf
  refine cw_si (As := [.int x1, .int 0, .int 1]) (rest := []) ⟨hx, hb, hml, hown, hts⟩ xR_S hK hX0 hS hP (c_X10_in hj l x1 0 1 f1 t y2 hq3) (va_cwS 3 hts gX10_tell_X10_in rfl rfl rfl (by decide +kernel) ⟨Nat.le_trans (Nat.le_of_ble_eq_true rfl) hR.1, Nat.le_trans (Nat.le_of_ble_eq_true rfl) hR.2⟩) rfl hl.1 rfl (Nat.le_of_ble_eq_true rfl) ⟨Nat.zero_le _, Nat.zero_le _⟩ dX10_tell_8 (fun H locs hP hS => ?_)
  refine lv_if_ne (tgt := 18) hx hb dX10_tell_11 (by decide) (fun c11 => ?_) (fun c11 => ?_)
  · have hf := itF hf c11
    refine lv_aload_n hx hb dX10_tell_18 rfl (lv_at hl 0 rfl) ?_
    refine va_get (D := D) (ci := 10) (v := .ref (ad 10)) (C := RX10) (T := TX10) (N := 34) hx hb hts hiX10 hown hK hP 0 rfl rfl 25 (by decide) lk37 (fun _ h9 => h9) rfl dX10_tell_19 ?_
    refine lv_iload_n hx hb dX10_tell_22 rfl (lv_at hl 1 rfl) ?_
    obtain ⟨hin4, hf⟩ := gi_out hf
    refine va_zald hx hb hK hP 10 2 rfl rfl hin4 dX10_tell_23 ?_
    refine lv_if_ne (tgt := 31) hx hb dX10_tell_24 (by decide) (fun c24 => ?_) (fun c24 => ?_)
    · have hf := itF hf c24
      refine lv_lconst (v := 1) hx hb dX10_tell_31 (by decide) ?_
      refine lv_lstore_n (lv' := [(2, .long 1), (0, .ref (ad 0)), (1, .int x1)]) hx hb dX10_tell_32 rfl hl (by decide) rfl (fun ls hl => ?_)
      refine lv_iconst (v := 0) hx hb dX10_tell_33 (by decide) ?_
      refine lv_istore (lv' := [(4, .int 0), (2, .long 1), (0, .ref (ad 0)), (1, .int x1)]) hx hb dX10_tell_34 hl (by decide) rfl (fun ls hl => ?_)
      obtain ⟨y12, f13, hlp14, hf⟩ := bi2_out hf
      refine lp_X10_tell_36_w C0 hj hR N x1 t y12 f13 ?_ N 1 0 f1 hlp14 H locs ls hP hS (lv_sub hl [2, 3, 1, 0] rfl)
      intro H locs ls hP hS hl
      refine lv_lload_n hx hb dX10_tell_66 rfl (lv_at hl 0 rfl) ?_
      obtain ⟨rfl, rfl⟩ := Prod.mk.inj (Option.some.inj hf)
      exact kr H locs ls 67 dX10_tell_67 hP hS
    · have hf := itT hf c24
      refine lv_ldc2 (v := (-2)) hx hb hown (hts (.constantLong RX10 225 (-2)) (List.mem_of_getElem? (i := 4) rfl)) dX10_tell_27 ?_
      obtain ⟨rfl, rfl⟩ := Prod.mk.inj (Option.some.inj hf)
      exact kr H locs ls 30 dX10_tell_30 hP hS
  · have hf := itT hf c11
    refine lv_ldc2 (v := (-1)) hx hb hown (hts (.constantLong RX10 223 (-1)) (List.mem_of_getElem? (i := 2) rfl)) dX10_tell_14 ?_
    obtain ⟨rfl, rfl⟩ := Prod.mk.inj (Option.some.inj hf)
    exact kr H locs ls 17 dX10_tell_17 hP hS
set_option maxHeartbeats 4000000 in
set_option maxRecDepth 100000 in
theorem c_X10_tell (hj : jR ad) (l : Launch) (N : Nat) (x1 : Int32) (f : mM) (t : Int64) (r : Int64) (fR : mM) (hf : q_X10_tell N x1 f = some (r, fR)) : Met l yX10_tell wsX10_tell ({ frames := 1, cells := 0, slots := 0, locals := 23 }) (va_Pc ([.ref (ad 0), .int x1]) (pre D cy (wR ad cy) (xR) f t)) (va_Ql (fun (r2 : Int64) (u : mM × Int64) => r2 = r ∧ u = (fR, t)) (atW D (wR ad cy)) (aR ad)) 0 0 (aR ad) := by
  refine Met.ofW (cc := cX10_tell) (maxL := 5) (ret := (some .long)) (by decide) rfl ?_
  intro p e s m args below meth c s₁ B hml hv
  obtain ⟨rfl, hP, hK, hX0⟩ := hv
  have hl := lv_entry ([.ref (ad 0), .int x1]) (n := 5) (Nat.le_of_ble_eq_true rfl)
  rw [lg_entry_eq]
  generalize (lg_sl ([.ref (ad 0), .int x1]) ++ List.replicate (5 - (lg_sl ([.ref (ad 0), .int x1])).length) Slot.unset).toArray = ls at hl ⊢
  have hlocks := B.notSynchronized
  exact b_X10_tell ⟨B.exec, B.bytes, B.returns, hml, findClass_of_methodNamed B.named, atoms_spec (ws := wsX10_tell) B.pre, hlocks, hK, hX0⟩ hj ⟨Nat.le_refl _, Nat.le_refl _⟩ N x1 f t r fR hf (fun H locs ls pc hd hP hS => W.lret B.exec B.bytes B.returns (fun t2 ht hW => ⟨⟨r, (fR, t), rfl, ⟨rfl, rfl⟩, by show va_P D vwCl _ t2.heap; rw [ht]; exact hP⟩, hS.F ht⟩) hS.2.2 hd) s.heap [] ls hP va_S.rf hl
def lp_X10_rate_35 (N : Nat) (x1 : Int32) (x2 : Int32) (f : mM) : Nat → Int32 → Int32 → Option (Int32)
  | 0, _, _ => none
  | n + 1, x3, x4 => if (f 0 16) ≤ x4 then some x3 else gi x4 50 (gi x2 8 (sq (fun (v10 : Int32) => sq (x3 + v10) (fun x3_12 => sq (x4 + 1) (fun x4_13 => lp_X10_rate_35 N x1 x2 f n x3_12 x4_13))) (fun k11 => if (f 8 (Int32.toNatClampNeg x4)) < (f 5 (Int32.toNatClampNeg x2)) then k11 0 else k11 1)))
theorem lp_X10_rate_35_s (N : Nat) (x1 : Int32) (x2 : Int32) (f : mM) (n : Nat) (x3 : Int32) (x4 : Int32) : lp_X10_rate_35 N x1 x2 f (n + 1) x3 x4 = (if (f 0 16) ≤ x4 then some x3 else gi x4 50 (gi x2 8 (sq (fun (v10 : Int32) => sq (x3 + v10) (fun x3_12 => sq (x4 + 1) (fun x4_13 => lp_X10_rate_35 N x1 x2 f n x3_12 x4_13))) (fun k11 => if (f 8 (Int32.toNatClampNeg x4)) < (f 5 (Int32.toNatClampNeg x2)) then k11 0 else k11 1)))) := rfl
set_option maxHeartbeats 4000000 in
set_option maxRecDepth 100000 in
theorem lp_X10_rate_35_w (C0 : cX p s m args meth c cX10_rate 5 (some .int) RX10 wsX10_rate D cy (xR)) (hj : jR ad) (hR : 2 ≤ R.frames ∧ 43 ≤ R.locals) (N : Nat) (x1 : Int32) (x2 : Int32) (f : mM) (t : Int64) (r3 : Int32) (kx74 : ∀ (H : Heap) (locs : List Loc) (ls : Array Slot), va_P D vwCl (wR ad cy f t) H → va_S (aR ad) s.heap H locs → lv_has ls 5 [(0, .ref (ad 0)), (1, .int x1), (2, .int x2), (3, .int r3)] → W p l e R s m args below meth c H locs 0 0 Q (F0 m 74 ls [])) : ∀ (n : Nat) (x3 : Int32) (x4 : Int32), lp_X10_rate_35 N x1 x2 f n x3 x4 = some r3 → ∀ (H : Heap) (locs : List Loc) (ls : Array Slot), va_P D vwCl (wR ad cy f t) H → va_S (aR ad) s.heap H locs → lv_has ls 5 [(0, .ref (ad 0)), (1, .int x1), (2, .int x2), (3, .int x3), (4, .int x4)] → W p l e R s m args below meth c H locs 0 0 Q (F0 m 35 ls []) := by
  obtain ⟨hx, hb, hr, hml, hown, hts, hlocks, hK, hX0⟩ := id C0
  have lk148 := hts (.fieldLink RX10 148 "PlankNineModel" "planks" "I") (List.mem_of_getElem? (i := 4) rfl)
  have hiX10 : ∀ w ∈ u_ws RX10 TX10 34, w ∈ wsX10_rate := fun w h => List.mem_cons_of_mem _ (List.mem_append_right _ h)
  have lk31 := hts (.fieldLink RX10 31 "PlankNineModel" "s" "[I") (List.mem_of_getElem? (i := 5) rfl)
  have lk22 := hts (.fieldLink RX10 22 "PlankNineModel" "weight" "[I") (List.mem_of_getElem? (i := 3) rfl)
  intro n
  induction n with
  | zero =>
    intro x3 x4 hf
    exact no_none hf
  | succ n ih =>
    intro x3 x4 hf H locs ls hP hS hl
    have hf := (lp_X10_rate_35_s N x1 x2 f n x3 x4).symm.trans hf
    refine lv_iload hx hb dX10_rate_35 (lv_at hl 4 rfl) ?_
    refine lv_aload_n hx hb dX10_rate_37 rfl (lv_at hl 0 rfl) ?_
    refine va_get (D := D) (ci := 10) (v := .int (f 0 16)) (C := RX10) (T := TX10) (N := 34) hx hb hts hiX10 hown hK hP 0 rfl rfl 16 (by decide) lk148 (fun _ h9 => h9) rfl dX10_rate_38 ?_
    refine lv_icmp_ge (tgt := 74) hx hb dX10_rate_41 (by decide) (fun c41 => ?_) (fun c41 => ?_)
    · have hf := itT hf c41
      obtain rfl := Option.some.inj hf
      exact kx74 H locs ls hP hS (lv_sub hl [0, 1, 2, 3] rfl)
    · have hf := itF hf c41
      refine lv_iload_n hx hb dX10_rate_44 rfl (lv_at hl 3 rfl) ?_
      refine lv_aload_n hx hb dX10_rate_45 rfl (lv_at hl 0 rfl) ?_
      refine va_get (D := D) (ci := 10) (v := .ref (ad 8)) (C := RX10) (T := TX10) (N := 34) hx hb hts hiX10 hown hK hP 0 rfl rfl 23 (by decide) lk31 (fun _ h9 => h9) rfl dX10_rate_46 ?_
      refine lv_iload hx hb dX10_rate_49 (lv_at hl 4 rfl) ?_
      obtain ⟨hin8, hf⟩ := gi_out hf
      refine va_iald hx hb hK hP 8 1 rfl rfl hin8 dX10_rate_51 ?_
      refine lv_aload_n hx hb dX10_rate_52 rfl (lv_at hl 0 rfl) ?_
      refine va_get (D := D) (ci := 10) (v := .ref (ad 5)) (C := RX10) (T := TX10) (N := 34) hx hb hts hiX10 hown hK hP 0 rfl rfl 12 (by decide) lk22 (fun _ h9 => h9) rfl dX10_rate_53 ?_
      refine lv_iload_n hx hb dX10_rate_56 rfl (lv_at hl 2 rfl) ?_
      obtain ⟨hin9, hf⟩ := gi_out hf
      refine va_iald hx hb hK hP 5 1 rfl rfl hin9 dX10_rate_57 ?_
      obtain ⟨k11, ek11, hf⟩ := sq_out hf
      have hk11 : ∀ (v10 : Int32), k11 v10 = some r3 → ∀ (H : Heap) (locs : List Loc) (ls : Array Slot), va_P D vwCl (wR ad cy f t) H → va_S (aR ad) s.heap H locs → lv_has ls 5 [(0, .ref (ad 0)), (1, .int x1), (2, .int x2), (4, .int x4)] → W p l e R s m args below meth c H locs 0 0 Q (F0 m 66 ls [.int v10, .int x3]) := by
        intro v10 hf H locs ls hP hS hl
        have hf := sk1 ek11 v10 hf
        refine lv_iadd hx hb dX10_rate_66 ?_
        obtain ⟨x3_12, ex3_12, hf⟩ := sq_out hf
        refine lv_nmi ex3_12 ?_
        refine lv_istore_n (lv' := [(3, .int x3_12), (0, .ref (ad 0)), (1, .int x1), (2, .int x2), (4, .int x4)]) hx hb dX10_rate_67 rfl hl (by decide) rfl (fun ls hl => ?_)
        obtain ⟨x4_13, ex4_13, hf⟩ := sq_out hf
        refine lv_iinc (v := x4_13) (lv' := [(4, .int x4_13), (3, .int x3_12), (0, .ref (ad 0)), (1, .int x1), (2, .int x2)]) hx hb dX10_rate_68 hl (k := 4) rfl (by rw [ex4_13]; rfl) (by decide) rfl (fun ls hl => ?_)
        refine lv_goto (tgt := 35) hx hb dX10_rate_71 (by decide) ?_
        exact ih x3_12 x4_13 hf H locs ls hP hS (lv_sub hl [2, 3, 4, 1, 0] rfl)
      refine lv_icmp_lt (tgt := 65) hx hb dX10_rate_58 (by decide) (fun c58 => ?_) (fun c58 => ?_)
      · have hf := itT hf c58
        refine lv_iconst (v := 0) hx hb dX10_rate_65 (by decide) ?_
        exact hk11 0 hf H locs ls hP hS (lv_sub hl [0, 1, 2, 4] rfl)
      · have hf := itF hf c58
        refine lv_iconst (v := 1) hx hb dX10_rate_61 (by decide) ?_
        refine lv_goto (tgt := 66) hx hb dX10_rate_62 (by decide) ?_
        exact hk11 1 hf H locs ls hP hS (lv_sub hl [0, 1, 2, 4] rfl)
def q_X10_rate (N : Nat) (x1 : Int32) (x2 : Int32) (f : mM) (t : Int64) : Option (Int32 × mM × Int64) := sq (st2 f 0 0 0) (fun f1 => bi (q_X10_in x1 0 5) (fun y2 => if y2 = 0 then some ((-1000000), f1, t) else bi (q_X10_isPerson x2 f1) (fun y4 => if y4 = 0 then some ((-1000000), f1, t) else gi x2 8 (sq (f1 5 (Int32.toNatClampNeg x2)) (fun x3_7 => bi (lp_X10_rate_35 N x1 x2 f1 N x3_7 0) (fun y14 => gi x2 8 (gi x2 8 (sq ((f1 5 (Int32.toNatClampNeg x2)) - (f1 6 (Int32.toNatClampNeg x2))) (fun x4_18 => sq (fun (v19 : Int64) => sq ((t + v19)) (fun t21 => if x1 = 0 then gi x2 8 (some ((f1 5 (Int32.toNatClampNeg x2)), f1, t21)) else if x1 = 1 then some (y14, f1, t21) else if x1 = 2 then some (x4_18, f1, t21) else if x1 = 3 then some ((2 * y14), f1, t21) else if x1 = 4 then some ((x4_18 + x2), f1, t21) else gi x2 8 (gi 9 50 (some (((f1 5 (Int32.toNatClampNeg x2)) + (f1 8 (Int32.toNatClampNeg 9))), f1, t21))))) (fun k20 => if x1 = 0 then k20 1 else if x1 = 1 then k20 11 else if x1 = 2 then k20 101 else if x1 = 3 then k20 1011 else if x1 = 4 then k20 10101 else k20 100001))))))))))
set_option maxHeartbeats 4000000 in
set_option maxRecDepth 100000 in
theorem b_X10_rate (C0 : cX p s m args meth c cX10_rate 5 (some .int) RX10 wsX10_rate D cy (xR)) (hj : jR ad) (hR : 2 ≤ R.frames ∧ 43 ≤ R.locals) (N : Nat) (x1 : Int32) (x2 : Int32) (f : mM) (t : Int64) (r : Int32) (fR : mM) (tR : Int64) (hf : q_X10_rate N x1 x2 f t = some (r, fR, tR)) (kr : ∀ (H : Heap) (locs : List Loc) (ls : Array Slot) (pc : Nat), decode cX10_rate pc = .ok (.ireturn, 1) → va_P D vwCl (wR ad cy fR tR) H → va_S (aR ad) s.heap H locs → W p l e R s m args below meth c H locs 0 0 Q (F0 m pc ls [.int r])) (H : Heap) (locs : List Loc) (ls : Array Slot) (hP : va_P D vwCl (wR ad cy f t) H) (hS : va_S (aR ad) s.heap H locs) (hl : lv_has ls 5 [(0, .ref (ad 0)), (1, .int x1), (2, .int x2)]) : W p l e R s m args below meth c H locs 0 0 Q (F0 m 0 ls []) := by
  obtain ⟨hx, hb, hr, hml, hown, hts, hlocks, hK, hX0⟩ := id C0
  have lk69 := hts (.fieldLink RX10 69 "PlankNineModel" "thrown" "I") (List.mem_of_getElem? (i := 1) rfl)
  have hiX10 : ∀ w ∈ u_ws RX10 TX10 34, w ∈ wsX10_rate := fun w h => List.mem_cons_of_mem _ (List.mem_append_right _ h)
  have lk22 := hts (.fieldLink RX10 22 "PlankNineModel" "weight" "[I") (List.mem_of_getElem? (i := 3) rfl)
  have lk25 := hts (.fieldLink RX10 25 "PlankNineModel" "stride" "[I") (List.mem_of_getElem? (i := 6) rfl)
  have lk231 := hts (.fieldLink RX10 231 "PlankNineModel" "trace" "J") (List.mem_of_getElem? (i := 7) rfl)
  have lk31 := hts (.fieldLink RX10 31 "PlankNineModel" "s" "[I") (List.mem_of_getElem? (i := 5) rfl)
  unfold q_X10_rate at hf
  refine lv_aload_n hx hb dX10_rate_0 rfl (lv_at hl 0 rfl) ?_
  refine lv_iconst (v := 0) hx hb dX10_rate_1 (by decide) ?_
  obtain ⟨f1, ef1, hf⟩ := sq_out hf
  refine va_put (D := D) (ci := 10) (v := .int 0) (ty := .int) (C := RX10) (T := TX10) (N := 34) hx hb hts hiX10 tyX10 tyX10_ok nmX10 hown hK hP (dR hj f t) hS 0 rfl rfl 0 (by decide) lk69 (fun _ h9 => h9) rfl (by decide +kernel) rfl rfl (Nat.le_of_ble_eq_true rfl) dX10_rate_2 (fun H locs hP _ hS => ?_)
  have hP := sR_0_0 ef1 hP
  refine lv_iload_n hx hb dX10_rate_5 rfl (lv_at hl 1 rfl) ?_
  refine lv_iconst (v := 0) hx hb dX10_rate_6 (by decide) ?_
  refine lv_iconst (v := 5) hx hb dX10_rate_7 (by decide) ?_
  obtain ⟨y2, hq3, hf⟩ := bi_out hf
  refine cw_si (As := [.int x1, .int 0, .int 5]) (rest := []) ⟨hx, hb, hml, hown, hts⟩ xR_S hK hX0 hS hP (c_X10_in hj l x1 0 5 f1 t y2 hq3) (va_cwS 3 hts gX10_rate_X10_in rfl rfl rfl (by decide +kernel) ⟨Nat.le_trans (Nat.le_of_ble_eq_true rfl) hR.1, Nat.le_trans (Nat.le_of_ble_eq_true rfl) hR.2⟩) rfl hl.1 rfl (Nat.le_of_ble_eq_true rfl) ⟨Nat.zero_le _, Nat.zero_le _⟩ dX10_rate_8 (fun H locs hP hS => ?_)
  refine lv_if_eq (tgt := 22) hx hb dX10_rate_11 (by decide) (fun c11 => ?_) (fun c11 => ?_)
  · have hf := itT hf c11
    refine lv_ldc (v := (-1000000)) hx hb hown (hts (.constant RX10 230 (-1000000)) (List.mem_of_getElem? (i := 2) rfl)) dX10_rate_22 ?_
    obtain ⟨rfl, hg3⟩ := Prod.mk.inj (Option.some.inj hf)
    obtain ⟨rfl, rfl⟩ := Prod.mk.inj hg3
    exact kr H locs ls 24 dX10_rate_24 hP hS
  · have hf := itF hf c11
    refine lv_aload_n hx hb dX10_rate_14 rfl (lv_at hl 0 rfl) ?_
    refine lv_iload_n hx hb dX10_rate_15 rfl (lv_at hl 2 rfl) ?_
    obtain ⟨y4, hq5, hf⟩ := bi_out hf
    refine cw_vi (As := [.int x2]) (rest := []) ⟨hx, hb, hml, hown, hts⟩ xR_S hK hX0 hS hP (c_X10_isPerson hj l x2 f1 t y4 hq5) (cwV 1 hts gX10_rate_X10_isPerson rfl rfl rfl (by decide +kernel) ⟨Nat.le_trans (Nat.le_of_ble_eq_true rfl) hR.1, Nat.le_trans (Nat.le_of_ble_eq_true rfl) hR.2⟩) (va_recv hK hP (ci := 10) (q0 := 0) rfl rfl) rfl hl.1 rfl (Nat.le_of_ble_eq_true rfl) ⟨Nat.zero_le _, Nat.zero_le _⟩ dX10_rate_16 (fun H locs hP hS => ?_)
    refine lv_if_ne (tgt := 25) hx hb dX10_rate_19 (by decide) (fun c19 => ?_) (fun c19 => ?_)
    · have hf := itF hf c19
      refine lv_aload_n hx hb dX10_rate_25 rfl (lv_at hl 0 rfl) ?_
      refine va_get (D := D) (ci := 10) (v := .ref (ad 5)) (C := RX10) (T := TX10) (N := 34) hx hb hts hiX10 hown hK hP 0 rfl rfl 12 (by decide) lk22 (fun _ h9 => h9) rfl dX10_rate_26 ?_
      refine lv_iload_n hx hb dX10_rate_29 rfl (lv_at hl 2 rfl) ?_
      obtain ⟨hin6, hf⟩ := gi_out hf
      refine va_iald hx hb hK hP 5 1 rfl rfl hin6 dX10_rate_30 ?_
      obtain ⟨x3_7, ex3_7, hf⟩ := sq_out hf
      refine lv_nmi ex3_7 ?_
      refine lv_istore_n (lv' := [(3, .int x3_7), (0, .ref (ad 0)), (1, .int x1), (2, .int x2)]) hx hb dX10_rate_31 rfl hl (by decide) rfl (fun ls hl => ?_)
      refine lv_iconst (v := 0) hx hb dX10_rate_32 (by decide) ?_
      refine lv_istore (lv' := [(4, .int 0), (3, .int x3_7), (0, .ref (ad 0)), (1, .int x1), (2, .int x2)]) hx hb dX10_rate_33 hl (by decide) rfl (fun ls hl => ?_)
      obtain ⟨y14, hlp15, hf⟩ := bi_out hf
      refine lp_X10_rate_35_w C0 hj hR N x1 x2 f1 t y14 ?_ N x3_7 0 hlp15 H locs ls hP hS (lv_sub hl [2, 3, 4, 1, 0] rfl)
      intro H locs ls hP hS hl
      refine lv_aload_n hx hb dX10_rate_74 rfl (lv_at hl 0 rfl) ?_
      refine va_get (D := D) (ci := 10) (v := .ref (ad 5)) (C := RX10) (T := TX10) (N := 34) hx hb hts hiX10 hown hK hP 0 rfl rfl 12 (by decide) lk22 (fun _ h9 => h9) rfl dX10_rate_75 ?_
      refine lv_iload_n hx hb dX10_rate_78 rfl (lv_at hl 2 rfl) ?_
      obtain ⟨hin16, hf⟩ := gi_out hf
      refine va_iald hx hb hK hP 5 1 rfl rfl hin16 dX10_rate_79 ?_
      refine lv_aload_n hx hb dX10_rate_80 rfl (lv_at hl 0 rfl) ?_
      refine va_get (D := D) (ci := 10) (v := .ref (ad 6)) (C := RX10) (T := TX10) (N := 34) hx hb hts hiX10 hown hK hP 0 rfl rfl 13 (by decide) lk25 (fun _ h9 => h9) rfl dX10_rate_81 ?_
      refine lv_iload_n hx hb dX10_rate_84 rfl (lv_at hl 2 rfl) ?_
      obtain ⟨hin17, hf⟩ := gi_out hf
      refine va_iald hx hb hK hP 6 1 rfl rfl hin17 dX10_rate_85 ?_
      refine lv_isub hx hb dX10_rate_86 ?_
      obtain ⟨x4_18, ex4_18, hf⟩ := sq_out hf
      refine lv_nmi ex4_18 ?_
      refine lv_istore (lv' := [(4, .int x4_18), (0, .ref (ad 0)), (1, .int x1), (2, .int x2), (3, .int y14)]) hx hb dX10_rate_87 hl (by decide) rfl (fun ls hl => ?_)
      refine lv_aload_n hx hb dX10_rate_89 rfl (lv_at hl 1 rfl) ?_
      refine lv_dup hx hb dX10_rate_90 rfl ?_
      refine va_get (D := D) (ci := 10) (v := .long t) (C := RX10) (T := TX10) (N := 34) hx hb hts hiX10 hown hK hP 0 rfl rfl 1 (by decide) lk231 (fun _ h9 => h9) rfl dX10_rate_91 ?_
      refine lv_iload_n hx hb dX10_rate_94 rfl (lv_at hl 2 rfl) ?_
      obtain ⟨k20, ek20, hf⟩ := sq_out hf
      have hk20 : ∀ (v19 : Int64), k20 v19 = some (r, fR, tR) → ∀ (H : Heap) (locs : List Loc) (ls : Array Slot), va_P D vwCl (wR ad cy f1 t) H → va_S (aR ad) s.heap H locs → lv_has ls 5 [(0, .ref (ad 0)), (1, .int x1), (2, .int x2), (3, .int y14), (4, .int x4_18)] → W p l e R s m args below meth c H locs 0 0 Q (F0 m 149 ls [.long v19, .long t, .ref (ad 0)]) := by
        intro v19 hf H locs ls hP hS hl
        have hf := sk1 ek20 v19 hf
        refine lv_ladd hx hb dX10_rate_149 ?_
        obtain ⟨t21, et21, hf⟩ := sq_out hf
        refine va_put (D := D) (ci := 10) (v := .long (t + v19)) (ty := .long) (C := RX10) (T := TX10) (N := 34) hx hb hts hiX10 tyX10 tyX10_ok nmX10 hown hK hP (dR hj f1 t) hS 0 rfl rfl 1 (by decide) lk231 (fun _ h9 => h9) rfl (by decide +kernel) rfl rfl (Nat.le_of_ble_eq_true rfl) dX10_rate_150 (fun H locs hP _ hS => ?_)
        have hP := sR_0_1 et21 hP
        refine lv_iload_n hx hb dX10_rate_153 rfl (lv_at hl 1 rfl) ?_
        refine lv_if_ne (tgt := 166) hx hb dX10_rate_154 (by decide) (fun c154 => ?_) (fun c154 => ?_)
        · have hf := itF hf c154
          refine lv_iload_n hx hb dX10_rate_166 rfl (lv_at hl 1 rfl) ?_
          refine lv_iconst (v := 1) hx hb dX10_rate_167 (by decide) ?_
          refine lv_icmp_ne (tgt := 175) hx hb dX10_rate_168 (by decide) (fun c168 => ?_) (fun c168 => ?_)
          · have hf := itF hf c168
            refine lv_iload_n hx hb dX10_rate_175 rfl (lv_at hl 1 rfl) ?_
            refine lv_iconst (v := 2) hx hb dX10_rate_176 (by decide) ?_
            refine lv_icmp_ne (tgt := 185) hx hb dX10_rate_177 (by decide) (fun c177 => ?_) (fun c177 => ?_)
            · have hf := itF hf c177
              refine lv_iload_n hx hb dX10_rate_185 rfl (lv_at hl 1 rfl) ?_
              refine lv_iconst (v := 3) hx hb dX10_rate_186 (by decide) ?_
              refine lv_icmp_ne (tgt := 196) hx hb dX10_rate_187 (by decide) (fun c187 => ?_) (fun c187 => ?_)
              · have hf := itF hf c187
                refine lv_iload_n hx hb dX10_rate_196 rfl (lv_at hl 1 rfl) ?_
                refine lv_iconst (v := 4) hx hb dX10_rate_197 (by decide) ?_
                refine lv_icmp_ne (tgt := 208) hx hb dX10_rate_198 (by decide) (fun c198 => ?_) (fun c198 => ?_)
                · have hf := itF hf c198
                  refine lv_aload_n hx hb dX10_rate_208 rfl (lv_at hl 0 rfl) ?_
                  refine va_get (D := D) (ci := 10) (v := .ref (ad 5)) (C := RX10) (T := TX10) (N := 34) hx hb hts hiX10 hown hK hP 0 rfl rfl 12 (by decide) lk22 (fun _ h9 => h9) rfl dX10_rate_209 ?_
                  refine lv_iload_n hx hb dX10_rate_212 rfl (lv_at hl 2 rfl) ?_
                  obtain ⟨hin22, hf⟩ := gi_out hf
                  refine va_iald hx hb hK hP 5 1 rfl rfl hin22 dX10_rate_213 ?_
                  refine lv_aload_n hx hb dX10_rate_214 rfl (lv_at hl 0 rfl) ?_
                  refine va_get (D := D) (ci := 10) (v := .ref (ad 8)) (C := RX10) (T := TX10) (N := 34) hx hb hts hiX10 hown hK hP 0 rfl rfl 23 (by decide) lk31 (fun _ h9 => h9) rfl dX10_rate_215 ?_
                  refine lv_bipush (v := 9) hx hb dX10_rate_218 (by decide) ?_
                  obtain ⟨hin23, hf⟩ := gi_out hf
                  refine va_iald hx hb hK hP 8 1 rfl rfl hin23 dX10_rate_220 ?_
                  refine lv_iadd hx hb dX10_rate_221 ?_
                  obtain ⟨rfl, hg3⟩ := Prod.mk.inj (Option.some.inj hf)
                  obtain ⟨rfl, rfl⟩ := Prod.mk.inj hg3
                  exact kr H locs ls 222 dX10_rate_222 hP hS
                · have hf := itT hf c198
                  refine lv_iload hx hb dX10_rate_201 (lv_at hl 4 rfl) ?_
                  refine lv_iload_n hx hb dX10_rate_203 rfl (lv_at hl 2 rfl) ?_
                  refine lv_iadd hx hb dX10_rate_204 ?_
                  refine lv_goto (tgt := 222) hx hb dX10_rate_205 (by decide) ?_
                  obtain ⟨rfl, hg3⟩ := Prod.mk.inj (Option.some.inj hf)
                  obtain ⟨rfl, rfl⟩ := Prod.mk.inj hg3
                  exact kr H locs ls 222 dX10_rate_222 hP hS
              · have hf := itT hf c187
                refine lv_iconst (v := 2) hx hb dX10_rate_190 (by decide) ?_
                refine lv_iload_n hx hb dX10_rate_191 rfl (lv_at hl 3 rfl) ?_
                refine lv_imul hx hb dX10_rate_192 ?_
                refine lv_goto (tgt := 222) hx hb dX10_rate_193 (by decide) ?_
                obtain ⟨rfl, hg3⟩ := Prod.mk.inj (Option.some.inj hf)
                obtain ⟨rfl, rfl⟩ := Prod.mk.inj hg3
                exact kr H locs ls 222 dX10_rate_222 hP hS
            · have hf := itT hf c177
              refine lv_iload hx hb dX10_rate_180 (lv_at hl 4 rfl) ?_
              refine lv_goto (tgt := 222) hx hb dX10_rate_182 (by decide) ?_
              obtain ⟨rfl, hg3⟩ := Prod.mk.inj (Option.some.inj hf)
              obtain ⟨rfl, rfl⟩ := Prod.mk.inj hg3
              exact kr H locs ls 222 dX10_rate_222 hP hS
          · have hf := itT hf c168
            refine lv_iload_n hx hb dX10_rate_171 rfl (lv_at hl 3 rfl) ?_
            refine lv_goto (tgt := 222) hx hb dX10_rate_172 (by decide) ?_
            obtain ⟨rfl, hg3⟩ := Prod.mk.inj (Option.some.inj hf)
            obtain ⟨rfl, rfl⟩ := Prod.mk.inj hg3
            exact kr H locs ls 222 dX10_rate_222 hP hS
        · have hf := itT hf c154
          refine lv_aload_n hx hb dX10_rate_157 rfl (lv_at hl 0 rfl) ?_
          refine va_get (D := D) (ci := 10) (v := .ref (ad 5)) (C := RX10) (T := TX10) (N := 34) hx hb hts hiX10 hown hK hP 0 rfl rfl 12 (by decide) lk22 (fun _ h9 => h9) rfl dX10_rate_158 ?_
          refine lv_iload_n hx hb dX10_rate_161 rfl (lv_at hl 2 rfl) ?_
          obtain ⟨hin24, hf⟩ := gi_out hf
          refine va_iald hx hb hK hP 5 1 rfl rfl hin24 dX10_rate_162 ?_
          refine lv_goto (tgt := 222) hx hb dX10_rate_163 (by decide) ?_
          obtain ⟨rfl, hg3⟩ := Prod.mk.inj (Option.some.inj hf)
          obtain ⟨rfl, rfl⟩ := Prod.mk.inj hg3
          exact kr H locs ls 222 dX10_rate_222 hP hS
      refine lv_if_ne (tgt := 102) hx hb dX10_rate_95 (by decide) (fun c95 => ?_) (fun c95 => ?_)
      · have hf := itF hf c95
        refine lv_iload_n hx hb dX10_rate_102 rfl (lv_at hl 2 rfl) ?_
        refine lv_iconst (v := 1) hx hb dX10_rate_103 (by decide) ?_
        refine lv_icmp_ne (tgt := 113) hx hb dX10_rate_104 (by decide) (fun c104 => ?_) (fun c104 => ?_)
        · have hf := itF hf c104
          refine lv_iload_n hx hb dX10_rate_113 rfl (lv_at hl 2 rfl) ?_
          refine lv_iconst (v := 2) hx hb dX10_rate_114 (by decide) ?_
          refine lv_icmp_ne (tgt := 124) hx hb dX10_rate_115 (by decide) (fun c115 => ?_) (fun c115 => ?_)
          · have hf := itF hf c115
            refine lv_iload_n hx hb dX10_rate_124 rfl (lv_at hl 2 rfl) ?_
            refine lv_iconst (v := 3) hx hb dX10_rate_125 (by decide) ?_
            refine lv_icmp_ne (tgt := 135) hx hb dX10_rate_126 (by decide) (fun c126 => ?_) (fun c126 => ?_)
            · have hf := itF hf c126
              refine lv_iload_n hx hb dX10_rate_135 rfl (lv_at hl 2 rfl) ?_
              refine lv_iconst (v := 4) hx hb dX10_rate_136 (by decide) ?_
              refine lv_icmp_ne (tgt := 146) hx hb dX10_rate_137 (by decide) (fun c137 => ?_) (fun c137 => ?_)
              · have hf := itF hf c137
                refine lv_ldc2 (v := 100001) hx hb hown (hts (.constantLong RX10 243 (100001)) (List.mem_of_getElem? (i := 12) rfl)) dX10_rate_146 ?_
                exact hk20 100001 hf H locs ls hP hS (lv_sub hl [1, 2, 3, 4, 0] rfl)
              · have hf := itT hf c137
                refine lv_ldc2 (v := 10101) hx hb hown (hts (.constantLong RX10 241 (10101)) (List.mem_of_getElem? (i := 11) rfl)) dX10_rate_140 ?_
                refine lv_goto (tgt := 149) hx hb dX10_rate_143 (by decide) ?_
                exact hk20 10101 hf H locs ls hP hS (lv_sub hl [1, 2, 3, 4, 0] rfl)
            · have hf := itT hf c126
              refine lv_ldc2 (v := 1011) hx hb hown (hts (.constantLong RX10 239 (1011)) (List.mem_of_getElem? (i := 10) rfl)) dX10_rate_129 ?_
              refine lv_goto (tgt := 149) hx hb dX10_rate_132 (by decide) ?_
              exact hk20 1011 hf H locs ls hP hS (lv_sub hl [1, 2, 3, 4, 0] rfl)
          · have hf := itT hf c115
            refine lv_ldc2 (v := 101) hx hb hown (hts (.constantLong RX10 237 (101)) (List.mem_of_getElem? (i := 9) rfl)) dX10_rate_118 ?_
            refine lv_goto (tgt := 149) hx hb dX10_rate_121 (by decide) ?_
            exact hk20 101 hf H locs ls hP hS (lv_sub hl [1, 2, 3, 4, 0] rfl)
        · have hf := itT hf c104
          refine lv_ldc2 (v := 11) hx hb hown (hts (.constantLong RX10 235 (11)) (List.mem_of_getElem? (i := 8) rfl)) dX10_rate_107 ?_
          refine lv_goto (tgt := 149) hx hb dX10_rate_110 (by decide) ?_
          exact hk20 11 hf H locs ls hP hS (lv_sub hl [1, 2, 3, 4, 0] rfl)
      · have hf := itT hf c95
        refine lv_lconst (v := 1) hx hb dX10_rate_98 (by decide) ?_
        refine lv_goto (tgt := 149) hx hb dX10_rate_99 (by decide) ?_
        exact hk20 1 hf H locs ls hP hS (lv_sub hl [1, 2, 3, 4, 0] rfl)
    · have hf := itT hf c19
      refine lv_ldc (v := (-1000000)) hx hb hown (hts (.constant RX10 230 (-1000000)) (List.mem_of_getElem? (i := 2) rfl)) dX10_rate_22 ?_
      obtain ⟨rfl, hg3⟩ := Prod.mk.inj (Option.some.inj hf)
      obtain ⟨rfl, rfl⟩ := Prod.mk.inj hg3
      exact kr H locs ls 24 dX10_rate_24 hP hS
set_option maxHeartbeats 4000000 in
set_option maxRecDepth 100000 in
theorem c_X10_rate (hj : jR ad) (l : Launch) (N : Nat) (x1 : Int32) (x2 : Int32) (f : mM) (t : Int64) (r : Int32) (fR : mM) (tR : Int64) (hf : q_X10_rate N x1 x2 f t = some (r, fR, tR)) : Met l yX10_rate wsX10_rate ({ frames := 2, cells := 0, slots := 0, locals := 43 }) (va_Pc ([.ref (ad 0), .int x1, .int x2]) (pre D cy (wR ad cy) (xR) f t)) (va_Qi (fun (r2 : Int32) (u : mM × Int64) => r2 = r ∧ u = (fR, tR)) (atW D (wR ad cy)) (aR ad)) 0 0 (aR ad) := by
  refine Met.ofW (cc := cX10_rate) (maxL := 5) (ret := (some .int)) (by decide) rfl ?_
  intro p e s m args below meth c s₁ B hml hv
  obtain ⟨rfl, hP, hK, hX0⟩ := hv
  have hl := lv_entry ([.ref (ad 0), .int x1, .int x2]) (n := 5) (Nat.le_of_ble_eq_true rfl)
  rw [lg_entry_eq]
  generalize (lg_sl ([.ref (ad 0), .int x1, .int x2]) ++ List.replicate (5 - (lg_sl ([.ref (ad 0), .int x1, .int x2])).length) Slot.unset).toArray = ls at hl ⊢
  have hlocks := B.notSynchronized
  exact b_X10_rate ⟨B.exec, B.bytes, B.returns, hml, findClass_of_methodNamed B.named, atoms_spec (ws := wsX10_rate) B.pre, hlocks, hK, hX0⟩ hj ⟨Nat.le_refl _, Nat.le_refl _⟩ N x1 x2 f t r fR tR hf (fun H locs ls pc hd hP hS => W.iret B.exec B.bytes B.returns (fun t2 ht hW => ⟨⟨r, (fR, tR), rfl, ⟨rfl, rfl⟩, by show va_P D vwCl _ t2.heap; rw [ht]; exact hP⟩, hS.F ht⟩) hS.2.2 hd) s.heap [] ls hP va_S.rf hl
def lp_X10_above_4 (N : Nat) (f : mM) : Nat → Int32 → Int32 → Option (Int32)
  | 0, _, _ => none
  | n + 1, x1, x2 => if (f 0 16) ≤ x2 then some x1 else gi x2 50 (sq (fun (v2 : Int32) => sq (x1 + v2) (fun x1_4 => sq (x2 + 1) (fun x2_5 => lp_X10_above_4 N f n x1_4 x2_5))) (fun k3 => if (f 8 (Int32.toNatClampNeg x2)) ≤ 0 then k3 0 else k3 1))
theorem lp_X10_above_4_s (N : Nat) (f : mM) (n : Nat) (x1 : Int32) (x2 : Int32) : lp_X10_above_4 N f (n + 1) x1 x2 = (if (f 0 16) ≤ x2 then some x1 else gi x2 50 (sq (fun (v2 : Int32) => sq (x1 + v2) (fun x1_4 => sq (x2 + 1) (fun x2_5 => lp_X10_above_4 N f n x1_4 x2_5))) (fun k3 => if (f 8 (Int32.toNatClampNeg x2)) ≤ 0 then k3 0 else k3 1))) := rfl
set_option maxHeartbeats 4000000 in
set_option maxRecDepth 100000 in
theorem lp_X10_above_4_w (C0 : cX p s m args meth c cX10_above 3 (some .int) RX10 wsX10_above D cy (xR)) (hj : jR ad) (hR : 0 ≤ R.frames ∧ 0 ≤ R.locals) (N : Nat)  (f : mM) (t : Int64) (r1 : Int32) (kx35 : ∀ (H : Heap) (locs : List Loc) (ls : Array Slot), va_P D vwCl (wR ad cy f t) H → va_S (aR ad) s.heap H locs → lv_has ls 3 [(1, .int r1)] → W p l e R s m args below meth c H locs 0 0 Q (F0 m 35 ls [])) : ∀ (n : Nat) (x1 : Int32) (x2 : Int32), lp_X10_above_4 N f n x1 x2 = some r1 → ∀ (H : Heap) (locs : List Loc) (ls : Array Slot), va_P D vwCl (wR ad cy f t) H → va_S (aR ad) s.heap H locs → lv_has ls 3 [(0, .ref (ad 0)), (1, .int x1), (2, .int x2)] → W p l e R s m args below meth c H locs 0 0 Q (F0 m 4 ls []) := by
  obtain ⟨hx, hb, hr, hml, hown, hts, hlocks, hK, hX0⟩ := id C0
  have lk148 := hts (.fieldLink RX10 148 "PlankNineModel" "planks" "I") (List.mem_of_getElem? (i := 1) rfl)
  have hiX10 : ∀ w ∈ u_ws RX10 TX10 34, w ∈ wsX10_above := fun w h => List.mem_cons_of_mem _ (List.mem_append_right _ h)
  have lk31 := hts (.fieldLink RX10 31 "PlankNineModel" "s" "[I") (List.mem_of_getElem? (i := 2) rfl)
  intro n
  induction n with
  | zero =>
    intro x1 x2 hf
    exact no_none hf
  | succ n ih =>
    intro x1 x2 hf H locs ls hP hS hl
    have hf := (lp_X10_above_4_s N f n x1 x2).symm.trans hf
    refine lv_iload_n hx hb dX10_above_4 rfl (lv_at hl 2 rfl) ?_
    refine lv_aload_n hx hb dX10_above_5 rfl (lv_at hl 0 rfl) ?_
    refine va_get (D := D) (ci := 10) (v := .int (f 0 16)) (C := RX10) (T := TX10) (N := 34) hx hb hts hiX10 hown hK hP 0 rfl rfl 16 (by decide) lk148 (fun _ h9 => h9) rfl dX10_above_6 ?_
    refine lv_icmp_ge (tgt := 35) hx hb dX10_above_9 (by decide) (fun c9 => ?_) (fun c9 => ?_)
    · have hf := itT hf c9
      obtain rfl := Option.some.inj hf
      exact kx35 H locs ls hP hS (lv_sub hl [1] rfl)
    · have hf := itF hf c9
      refine lv_iload_n hx hb dX10_above_12 rfl (lv_at hl 1 rfl) ?_
      refine lv_aload_n hx hb dX10_above_13 rfl (lv_at hl 0 rfl) ?_
      refine va_get (D := D) (ci := 10) (v := .ref (ad 8)) (C := RX10) (T := TX10) (N := 34) hx hb hts hiX10 hown hK hP 0 rfl rfl 23 (by decide) lk31 (fun _ h9 => h9) rfl dX10_above_14 ?_
      refine lv_iload_n hx hb dX10_above_17 rfl (lv_at hl 2 rfl) ?_
      obtain ⟨hin1, hf⟩ := gi_out hf
      refine va_iald hx hb hK hP 8 1 rfl rfl hin1 dX10_above_18 ?_
      obtain ⟨k3, ek3, hf⟩ := sq_out hf
      have hk3 : ∀ (v2 : Int32), k3 v2 = some r1 → ∀ (H : Heap) (locs : List Loc) (ls : Array Slot), va_P D vwCl (wR ad cy f t) H → va_S (aR ad) s.heap H locs → lv_has ls 3 [(0, .ref (ad 0)), (2, .int x2)] → W p l e R s m args below meth c H locs 0 0 Q (F0 m 27 ls [.int v2, .int x1]) := by
        intro v2 hf H locs ls hP hS hl
        have hf := sk1 ek3 v2 hf
        refine lv_iadd hx hb dX10_above_27 ?_
        obtain ⟨x1_4, ex1_4, hf⟩ := sq_out hf
        refine lv_nmi ex1_4 ?_
        refine lv_istore_n (lv' := [(1, .int x1_4), (0, .ref (ad 0)), (2, .int x2)]) hx hb dX10_above_28 rfl hl (by decide) rfl (fun ls hl => ?_)
        obtain ⟨x2_5, ex2_5, hf⟩ := sq_out hf
        refine lv_iinc (v := x2_5) (lv' := [(2, .int x2_5), (1, .int x1_4), (0, .ref (ad 0))]) hx hb dX10_above_29 hl (k := 2) rfl (by rw [ex2_5]; rfl) (by decide) rfl (fun ls hl => ?_)
        refine lv_goto (tgt := 4) hx hb dX10_above_32 (by decide) ?_
        exact ih x1_4 x2_5 hf H locs ls hP hS (lv_sub hl [2, 1, 0] rfl)
      refine lv_if_le (tgt := 26) hx hb dX10_above_19 (by decide) (fun c19 => ?_) (fun c19 => ?_)
      · have hf := itT hf c19
        refine lv_iconst (v := 0) hx hb dX10_above_26 (by decide) ?_
        exact hk3 0 hf H locs ls hP hS (lv_sub hl [0, 2] rfl)
      · have hf := itF hf c19
        refine lv_iconst (v := 1) hx hb dX10_above_22 (by decide) ?_
        refine lv_goto (tgt := 27) hx hb dX10_above_23 (by decide) ?_
        exact hk3 1 hf H locs ls hP hS (lv_sub hl [0, 2] rfl)
def q_X10_above (N : Nat) (f : mM) : Option (Int32) := bi (lp_X10_above_4 N f N 0 0) (fun y6 => some y6)
set_option maxHeartbeats 4000000 in
set_option maxRecDepth 100000 in
theorem b_X10_above (C0 : cX p s m args meth c cX10_above 3 (some .int) RX10 wsX10_above D cy (xR)) (hj : jR ad) (hR : 0 ≤ R.frames ∧ 0 ≤ R.locals) (N : Nat)  (f : mM) (t : Int64) (r : Int32) (hf : q_X10_above N f = some r) (kr : ∀ (H : Heap) (locs : List Loc) (ls : Array Slot) (pc : Nat), decode cX10_above pc = .ok (.ireturn, 1) → va_P D vwCl (wR ad cy f t) H → va_S (aR ad) s.heap H locs → W p l e R s m args below meth c H locs 0 0 Q (F0 m pc ls [.int r])) (H : Heap) (locs : List Loc) (ls : Array Slot) (hP : va_P D vwCl (wR ad cy f t) H) (hS : va_S (aR ad) s.heap H locs) (hl : lv_has ls 3 [(0, .ref (ad 0))]) : W p l e R s m args below meth c H locs 0 0 Q (F0 m 0 ls []) := by
  obtain ⟨hx, hb, hr, hml, hown, hts, hlocks, hK, hX0⟩ := id C0
  unfold q_X10_above at hf
  refine lv_iconst (v := 0) hx hb dX10_above_0 (by decide) ?_
  refine lv_istore_n (lv' := [(1, .int 0), (0, .ref (ad 0))]) hx hb dX10_above_1 rfl hl (by decide) rfl (fun ls hl => ?_)
  refine lv_iconst (v := 0) hx hb dX10_above_2 (by decide) ?_
  refine lv_istore_n (lv' := [(2, .int 0), (1, .int 0), (0, .ref (ad 0))]) hx hb dX10_above_3 rfl hl (by decide) rfl (fun ls hl => ?_)
  obtain ⟨y6, hlp7, hf⟩ := bi_out hf
  refine lp_X10_above_4_w C0 hj hR N f t y6 ?_ N 0 0 hlp7 H locs ls hP hS (lv_sub hl [2, 1, 0] rfl)
  intro H locs ls hP hS hl
  refine lv_iload_n hx hb dX10_above_35 rfl (lv_at hl 0 rfl) ?_
  obtain rfl := Option.some.inj hf
  exact kr H locs ls 36 dX10_above_36 hP hS
set_option maxHeartbeats 4000000 in
set_option maxRecDepth 100000 in
theorem c_X10_above (hj : jR ad) (l : Launch) (N : Nat)  (f : mM) (t : Int64) (r : Int32) (hf : q_X10_above N f = some r) : Met l yX10_above wsX10_above ({ frames := 0, cells := 0, slots := 0, locals := 0 }) (va_Pc ([.ref (ad 0)]) (pre D cy (wR ad cy) (xR) f t)) (va_Qi (fun (r2 : Int32) (u : mM × Int64) => r2 = r ∧ u = (f, t)) (atW D (wR ad cy)) (aR ad)) 0 0 (aR ad) := by
  refine Met.ofW (cc := cX10_above) (maxL := 3) (ret := (some .int)) (by decide) rfl ?_
  intro p e s m args below meth c s₁ B hml hv
  obtain ⟨rfl, hP, hK, hX0⟩ := hv
  have hl := lv_entry ([.ref (ad 0)]) (n := 3) (Nat.le_of_ble_eq_true rfl)
  rw [lg_entry_eq]
  generalize (lg_sl ([.ref (ad 0)]) ++ List.replicate (3 - (lg_sl ([.ref (ad 0)])).length) Slot.unset).toArray = ls at hl ⊢
  have hlocks := B.notSynchronized
  exact b_X10_above ⟨B.exec, B.bytes, B.returns, hml, findClass_of_methodNamed B.named, atoms_spec (ws := wsX10_above) B.pre, hlocks, hK, hX0⟩ hj ⟨Nat.le_refl _, Nat.le_refl _⟩ N  f t r hf (fun H locs ls pc hd hP hS => W.iret B.exec B.bytes B.returns (fun t2 ht hW => ⟨⟨r, (f, t), rfl, ⟨rfl, rfl⟩, by show va_P D vwCl _ t2.heap; rw [ht]; exact hP⟩, hS.F ht⟩) hS.2.2 hd) s.heap [] ls hP va_S.rf hl
def lp_X10_keep_18 (N : Nat) (x1 : Int32) : Nat → Int32 → mM → Option (mM)
  | 0, _, _ => none
  | n + 1, x2, f => if 50 ≤ x2 then some f else gi x2 50 (gi ((50 * x1) + x2) 100 (sq (st2 f 9 (Int32.toNatClampNeg ((50 * x1) + x2)) (f 8 (Int32.toNatClampNeg x2))) (fun f6 => sq (x2 + 1) (fun x2_7 => lp_X10_keep_18 N x1 n x2_7 f6))))
theorem lp_X10_keep_18_s (N : Nat) (x1 : Int32) (n : Nat) (x2 : Int32) (f : mM) : lp_X10_keep_18 N x1 (n + 1) x2 f = (if 50 ≤ x2 then some f else gi x2 50 (gi ((50 * x1) + x2) 100 (sq (st2 f 9 (Int32.toNatClampNeg ((50 * x1) + x2)) (f 8 (Int32.toNatClampNeg x2))) (fun f6 => sq (x2 + 1) (fun x2_7 => lp_X10_keep_18 N x1 n x2_7 f6))))) := rfl
set_option maxHeartbeats 4000000 in
set_option maxRecDepth 100000 in
theorem lp_X10_keep_18_w (C0 : cX p s m args meth c cX10_keep 3 (some .int) RX10 wsX10_keep D cy (xR)) (hj : jR ad) (hR : 1 ≤ R.frames ∧ 22 ≤ R.locals) (N : Nat) (x1 : Int32) (t : Int64) (fR : mM) (kx47 : ∀ (H : Heap) (locs : List Loc) (ls : Array Slot), va_P D vwCl (wR ad cy fR t) H → va_S (aR ad) s.heap H locs → lv_has ls 3 [(0, .ref (ad 0)), (1, .int x1)] → W p l e R s m args below meth c H locs 0 0 Q (F0 m 47 ls [])) : ∀ (n : Nat) (x2 : Int32) (f : mM), lp_X10_keep_18 N x1 n x2 f = some fR → ∀ (H : Heap) (locs : List Loc) (ls : Array Slot), va_P D vwCl (wR ad cy f t) H → va_S (aR ad) s.heap H locs → lv_has ls 3 [(0, .ref (ad 0)), (1, .int x1), (2, .int x2)] → W p l e R s m args below meth c H locs 0 0 Q (F0 m 18 ls []) := by
  obtain ⟨hx, hb, hr, hml, hown, hts, hlocks, hK, hX0⟩ := id C0
  have lk34 := hts (.fieldLink RX10 34 "PlankNineModel" "kept" "[I") (List.mem_of_getElem? (i := 2) rfl)
  have hiX10 : ∀ w ∈ u_ws RX10 TX10 34, w ∈ wsX10_keep := fun w h => List.mem_cons_of_mem _ (List.mem_append_right _ h)
  have lk31 := hts (.fieldLink RX10 31 "PlankNineModel" "s" "[I") (List.mem_of_getElem? (i := 3) rfl)
  intro n
  induction n with
  | zero =>
    intro x2 f hf
    exact no_none hf
  | succ n ih =>
    intro x2 f hf H locs ls hP hS hl
    have hf := (lp_X10_keep_18_s N x1 n x2 f).symm.trans hf
    refine lv_iload_n hx hb dX10_keep_18 rfl (lv_at hl 2 rfl) ?_
    refine lv_bipush (v := 50) hx hb dX10_keep_19 (by decide) ?_
    refine lv_icmp_ge (tgt := 47) hx hb dX10_keep_21 (by decide) (fun c21 => ?_) (fun c21 => ?_)
    · have hf := itT hf c21
      obtain rfl := Option.some.inj hf
      exact kx47 H locs ls hP hS (lv_sub hl [0, 1] rfl)
    · have hf := itF hf c21
      refine lv_aload_n hx hb dX10_keep_24 rfl (lv_at hl 0 rfl) ?_
      refine va_get (D := D) (ci := 10) (v := .ref (ad 9)) (C := RX10) (T := TX10) (N := 34) hx hb hts hiX10 hown hK hP 0 rfl rfl 24 (by decide) lk34 (fun _ h9 => h9) rfl dX10_keep_25 ?_
      refine lv_bipush (v := 50) hx hb dX10_keep_28 (by decide) ?_
      refine lv_iload_n hx hb dX10_keep_30 rfl (lv_at hl 1 rfl) ?_
      refine lv_imul hx hb dX10_keep_31 ?_
      refine lv_iload_n hx hb dX10_keep_32 rfl (lv_at hl 2 rfl) ?_
      refine lv_iadd hx hb dX10_keep_33 ?_
      refine lv_aload_n hx hb dX10_keep_34 rfl (lv_at hl 0 rfl) ?_
      refine va_get (D := D) (ci := 10) (v := .ref (ad 8)) (C := RX10) (T := TX10) (N := 34) hx hb hts hiX10 hown hK hP 0 rfl rfl 23 (by decide) lk31 (fun _ h9 => h9) rfl dX10_keep_35 ?_
      refine lv_iload_n hx hb dX10_keep_38 rfl (lv_at hl 2 rfl) ?_
      obtain ⟨hin4, hf⟩ := gi_out hf
      refine va_iald hx hb hK hP 8 1 rfl rfl hin4 dX10_keep_39 ?_
      obtain ⟨hin5, hf⟩ := gi_out hf
      obtain ⟨f6, ef6, hf⟩ := sq_out hf
      refine va_iast hx hb hK hP (dR hj f t) hS 9 1 rfl rfl hin5 dX10_keep_40 (fun H locs hP _ hS => ?_)
      have hP := sR_9 ef6 hP
      obtain ⟨x2_7, ex2_7, hf⟩ := sq_out hf
      refine lv_iinc (v := x2_7) (lv' := [(2, .int x2_7), (0, .ref (ad 0)), (1, .int x1)]) hx hb dX10_keep_41 hl (k := 2) rfl (by rw [ex2_7]; rfl) (by decide) rfl (fun ls hl => ?_)
      refine lv_goto (tgt := 18) hx hb dX10_keep_44 (by decide) ?_
      exact ih x2_7 f6 hf H locs ls hP hS (lv_sub hl [1, 2, 0] rfl)
def q_X10_keep (N : Nat) (x1 : Int32) (f : mM) : Option (Int32 × mM) := sq (st2 f 0 0 0) (fun f1 => bi (q_X10_in x1 0 1) (fun y2 => if y2 = 0 then some ((-1), f1) else bi (lp_X10_keep_18 N x1 N 0 f1) (fun f8 => gi x1 2 (sq (st2 f8 10 (Int32.toNatClampNeg x1) (vp_nar .boolean 1)) (fun f11 => bi (q_X10_above N f11) (fun y12 => some (y12, f11)))))))
set_option maxHeartbeats 4000000 in
set_option maxRecDepth 100000 in
theorem b_X10_keep (C0 : cX p s m args meth c cX10_keep 3 (some .int) RX10 wsX10_keep D cy (xR)) (hj : jR ad) (hR : 1 ≤ R.frames ∧ 22 ≤ R.locals) (N : Nat) (x1 : Int32) (f : mM) (t : Int64) (r : Int32) (fR : mM) (hf : q_X10_keep N x1 f = some (r, fR)) (kr : ∀ (H : Heap) (locs : List Loc) (ls : Array Slot) (pc : Nat), decode cX10_keep pc = .ok (.ireturn, 1) → va_P D vwCl (wR ad cy fR t) H → va_S (aR ad) s.heap H locs → W p l e R s m args below meth c H locs 0 0 Q (F0 m pc ls [.int r])) (H : Heap) (locs : List Loc) (ls : Array Slot) (hP : va_P D vwCl (wR ad cy f t) H) (hS : va_S (aR ad) s.heap H locs) (hl : lv_has ls 3 [(0, .ref (ad 0)), (1, .int x1)]) : W p l e R s m args below meth c H locs 0 0 Q (F0 m 0 ls []) := by
  obtain ⟨hx, hb, hr, hml, hown, hts, hlocks, hK, hX0⟩ := id C0
  have lk69 := hts (.fieldLink RX10 69 "PlankNineModel" "thrown" "I") (List.mem_of_getElem? (i := 1) rfl)
  have hiX10 : ∀ w ∈ u_ws RX10 TX10 34, w ∈ wsX10_keep := fun w h => List.mem_cons_of_mem _ (List.mem_append_right _ h)
  have lk37 := hts (.fieldLink RX10 37 "PlankNineModel" "isKept" "[Z") (List.mem_of_getElem? (i := 4) rfl)
  unfold q_X10_keep at hf
  refine lv_aload_n hx hb dX10_keep_0 rfl (lv_at hl 0 rfl) ?_
  refine lv_iconst (v := 0) hx hb dX10_keep_1 (by decide) ?_
  obtain ⟨f1, ef1, hf⟩ := sq_out hf
  refine va_put (D := D) (ci := 10) (v := .int 0) (ty := .int) (C := RX10) (T := TX10) (N := 34) hx hb hts hiX10 tyX10 tyX10_ok nmX10 hown hK hP (dR hj f t) hS 0 rfl rfl 0 (by decide) lk69 (fun _ h9 => h9) rfl (by decide +kernel) rfl rfl (Nat.le_of_ble_eq_true rfl) dX10_keep_2 (fun H locs hP _ hS => ?_)
  have hP := sR_0_0 ef1 hP
  refine lv_iload_n hx hb dX10_keep_5 rfl (lv_at hl 1 rfl) ?_
  refine lv_iconst (v := 0) hx hb dX10_keep_6 (by decide) ?_
  refine lv_iconst (v := 1) hx hb dX10_keep_7 (by decide) ?_
  obtain ⟨y2, hq3, hf⟩ := bi_out hf
  refine cw_si (As := [.int x1, .int 0, .int 1]) (rest := []) ⟨hx, hb, hml, hown, hts⟩ xR_S hK hX0 hS hP (c_X10_in hj l x1 0 1 f1 t y2 hq3) (va_cwS 3 hts gX10_keep_X10_in rfl rfl rfl (by decide +kernel) ⟨Nat.le_trans (Nat.le_of_ble_eq_true rfl) hR.1, Nat.le_trans (Nat.le_of_ble_eq_true rfl) hR.2⟩) rfl hl.1 rfl (Nat.le_of_ble_eq_true rfl) ⟨Nat.zero_le _, Nat.zero_le _⟩ dX10_keep_8 (fun H locs hP hS => ?_)
  refine lv_if_ne (tgt := 16) hx hb dX10_keep_11 (by decide) (fun c11 => ?_) (fun c11 => ?_)
  · have hf := itF hf c11
    refine lv_iconst (v := 0) hx hb dX10_keep_16 (by decide) ?_
    refine lv_istore_n (lv' := [(2, .int 0), (0, .ref (ad 0)), (1, .int x1)]) hx hb dX10_keep_17 rfl hl (by decide) rfl (fun ls hl => ?_)
    obtain ⟨f8, hlp9, hf⟩ := bi_out hf
    refine lp_X10_keep_18_w C0 hj hR N x1 t f8 ?_ N 0 f1 hlp9 H locs ls hP hS (lv_sub hl [1, 2, 0] rfl)
    intro H locs ls hP hS hl
    refine lv_aload_n hx hb dX10_keep_47 rfl (lv_at hl 0 rfl) ?_
    refine va_get (D := D) (ci := 10) (v := .ref (ad 10)) (C := RX10) (T := TX10) (N := 34) hx hb hts hiX10 hown hK hP 0 rfl rfl 25 (by decide) lk37 (fun _ h9 => h9) rfl dX10_keep_48 ?_
    refine lv_iload_n hx hb dX10_keep_51 rfl (lv_at hl 1 rfl) ?_
    refine lv_iconst (v := 1) hx hb dX10_keep_52 (by decide) ?_
    obtain ⟨hin10, hf⟩ := gi_out hf
    obtain ⟨f11, ef11, hf⟩ := sq_out hf
    refine va_zast hx hb hK hP (dR hj f8 t) hS 10 2 rfl rfl hin10 dX10_keep_53 (fun H locs hP _ hS => ?_)
    have hP := sR_10 ef11 hP
    refine lv_aload_n hx hb dX10_keep_54 rfl (lv_at hl 0 rfl) ?_
    obtain ⟨y12, hq13, hf⟩ := bi_out hf
    refine cw_vi (As := []) (rest := []) ⟨hx, hb, hml, hown, hts⟩ xR_S hK hX0 hS hP (c_X10_above hj l N f11 t y12 hq13) (cwV 0 hts gX10_keep_X10_above rfl rfl rfl (by decide +kernel) ⟨Nat.le_trans (Nat.le_of_ble_eq_true rfl) hR.1, Nat.le_trans (Nat.le_of_ble_eq_true rfl) hR.2⟩) (va_recv hK hP (ci := 10) (q0 := 0) rfl rfl) rfl hl.1 rfl (Nat.le_of_ble_eq_true rfl) ⟨Nat.zero_le _, Nat.zero_le _⟩ dX10_keep_55 (fun H locs hP hS => ?_)
    obtain ⟨rfl, rfl⟩ := Prod.mk.inj (Option.some.inj hf)
    exact kr H locs ls 58 dX10_keep_58 hP hS
  · have hf := itT hf c11
    refine lv_iconst (v := (-1)) hx hb dX10_keep_14 (by decide) ?_
    obtain ⟨rfl, rfl⟩ := Prod.mk.inj (Option.some.inj hf)
    exact kr H locs ls 15 dX10_keep_15 hP hS
set_option maxHeartbeats 4000000 in
set_option maxRecDepth 100000 in
theorem c_X10_keep (hj : jR ad) (l : Launch) (N : Nat) (x1 : Int32) (f : mM) (t : Int64) (r : Int32) (fR : mM) (hf : q_X10_keep N x1 f = some (r, fR)) : Met l yX10_keep wsX10_keep ({ frames := 1, cells := 0, slots := 0, locals := 22 }) (va_Pc ([.ref (ad 0), .int x1]) (pre D cy (wR ad cy) (xR) f t)) (va_Qi (fun (r2 : Int32) (u : mM × Int64) => r2 = r ∧ u = (fR, t)) (atW D (wR ad cy)) (aR ad)) 0 0 (aR ad) := by
  refine Met.ofW (cc := cX10_keep) (maxL := 3) (ret := (some .int)) (by decide) rfl ?_
  intro p e s m args below meth c s₁ B hml hv
  obtain ⟨rfl, hP, hK, hX0⟩ := hv
  have hl := lv_entry ([.ref (ad 0), .int x1]) (n := 3) (Nat.le_of_ble_eq_true rfl)
  rw [lg_entry_eq]
  generalize (lg_sl ([.ref (ad 0), .int x1]) ++ List.replicate (3 - (lg_sl ([.ref (ad 0), .int x1])).length) Slot.unset).toArray = ls at hl ⊢
  have hlocks := B.notSynchronized
  exact b_X10_keep ⟨B.exec, B.bytes, B.returns, hml, findClass_of_methodNamed B.named, atoms_spec (ws := wsX10_keep) B.pre, hlocks, hK, hX0⟩ hj ⟨Nat.le_refl _, Nat.le_refl _⟩ N x1 f t r fR hf (fun H locs ls pc hd hP hS => W.iret B.exec B.bytes B.returns (fun t2 ht hW => ⟨⟨r, (fR, t), rfl, ⟨rfl, rfl⟩, by show va_P D vwCl _ t2.heap; rw [ht]; exact hP⟩, hS.F ht⟩) hS.2.2 hd) s.heap [] ls hP va_S.rf hl
def lp_X10_back_30 (N : Nat) (x1 : Int32) : Nat → Int32 → mM → Option (mM)
  | 0, _, _ => none
  | n + 1, x2, f => if 50 ≤ x2 then some f else gi ((50 * x1) + x2) 100 (gi x2 50 (sq (st2 f 8 (Int32.toNatClampNeg x2) (f 9 (Int32.toNatClampNeg ((50 * x1) + x2)))) (fun f7 => sq (x2 + 1) (fun x2_8 => lp_X10_back_30 N x1 n x2_8 f7))))
theorem lp_X10_back_30_s (N : Nat) (x1 : Int32) (n : Nat) (x2 : Int32) (f : mM) : lp_X10_back_30 N x1 (n + 1) x2 f = (if 50 ≤ x2 then some f else gi ((50 * x1) + x2) 100 (gi x2 50 (sq (st2 f 8 (Int32.toNatClampNeg x2) (f 9 (Int32.toNatClampNeg ((50 * x1) + x2)))) (fun f7 => sq (x2 + 1) (fun x2_8 => lp_X10_back_30 N x1 n x2_8 f7))))) := rfl
set_option maxHeartbeats 4000000 in
set_option maxRecDepth 100000 in
theorem lp_X10_back_30_w (C0 : cX p s m args meth c cX10_back 3 (some .int) RX10 wsX10_back D cy (xR)) (hj : jR ad) (hR : 1 ≤ R.frames ∧ 22 ≤ R.locals) (N : Nat) (x1 : Int32) (t : Int64) (fR : mM) (kx59 : ∀ (H : Heap) (locs : List Loc) (ls : Array Slot), va_P D vwCl (wR ad cy fR t) H → va_S (aR ad) s.heap H locs → lv_has ls 3 [(0, .ref (ad 0))] → W p l e R s m args below meth c H locs 0 0 Q (F0 m 59 ls [])) : ∀ (n : Nat) (x2 : Int32) (f : mM), lp_X10_back_30 N x1 n x2 f = some fR → ∀ (H : Heap) (locs : List Loc) (ls : Array Slot), va_P D vwCl (wR ad cy f t) H → va_S (aR ad) s.heap H locs → lv_has ls 3 [(0, .ref (ad 0)), (1, .int x1), (2, .int x2)] → W p l e R s m args below meth c H locs 0 0 Q (F0 m 30 ls []) := by
  obtain ⟨hx, hb, hr, hml, hown, hts, hlocks, hK, hX0⟩ := id C0
  have lk31 := hts (.fieldLink RX10 31 "PlankNineModel" "s" "[I") (List.mem_of_getElem? (i := 3) rfl)
  have hiX10 : ∀ w ∈ u_ws RX10 TX10 34, w ∈ wsX10_back := fun w h => List.mem_cons_of_mem _ (List.mem_append_right _ h)
  have lk34 := hts (.fieldLink RX10 34 "PlankNineModel" "kept" "[I") (List.mem_of_getElem? (i := 4) rfl)
  intro n
  induction n with
  | zero =>
    intro x2 f hf
    exact no_none hf
  | succ n ih =>
    intro x2 f hf H locs ls hP hS hl
    have hf := (lp_X10_back_30_s N x1 n x2 f).symm.trans hf
    refine lv_iload_n hx hb dX10_back_30 rfl (lv_at hl 2 rfl) ?_
    refine lv_bipush (v := 50) hx hb dX10_back_31 (by decide) ?_
    refine lv_icmp_ge (tgt := 59) hx hb dX10_back_33 (by decide) (fun c33 => ?_) (fun c33 => ?_)
    · have hf := itT hf c33
      obtain rfl := Option.some.inj hf
      exact kx59 H locs ls hP hS (lv_sub hl [0] rfl)
    · have hf := itF hf c33
      refine lv_aload_n hx hb dX10_back_36 rfl (lv_at hl 0 rfl) ?_
      refine va_get (D := D) (ci := 10) (v := .ref (ad 8)) (C := RX10) (T := TX10) (N := 34) hx hb hts hiX10 hown hK hP 0 rfl rfl 23 (by decide) lk31 (fun _ h9 => h9) rfl dX10_back_37 ?_
      refine lv_iload_n hx hb dX10_back_40 rfl (lv_at hl 2 rfl) ?_
      refine lv_aload_n hx hb dX10_back_41 rfl (lv_at hl 0 rfl) ?_
      refine va_get (D := D) (ci := 10) (v := .ref (ad 9)) (C := RX10) (T := TX10) (N := 34) hx hb hts hiX10 hown hK hP 0 rfl rfl 24 (by decide) lk34 (fun _ h9 => h9) rfl dX10_back_42 ?_
      refine lv_bipush (v := 50) hx hb dX10_back_45 (by decide) ?_
      refine lv_iload_n hx hb dX10_back_47 rfl (lv_at hl 1 rfl) ?_
      refine lv_imul hx hb dX10_back_48 ?_
      refine lv_iload_n hx hb dX10_back_49 rfl (lv_at hl 2 rfl) ?_
      refine lv_iadd hx hb dX10_back_50 ?_
      obtain ⟨hin5, hf⟩ := gi_out hf
      refine va_iald hx hb hK hP 9 1 rfl rfl hin5 dX10_back_51 ?_
      obtain ⟨hin6, hf⟩ := gi_out hf
      obtain ⟨f7, ef7, hf⟩ := sq_out hf
      refine va_iast hx hb hK hP (dR hj f t) hS 8 1 rfl rfl hin6 dX10_back_52 (fun H locs hP _ hS => ?_)
      have hP := sR_8 ef7 hP
      obtain ⟨x2_8, ex2_8, hf⟩ := sq_out hf
      refine lv_iinc (v := x2_8) (lv' := [(2, .int x2_8), (0, .ref (ad 0)), (1, .int x1)]) hx hb dX10_back_53 hl (k := 2) rfl (by rw [ex2_8]; rfl) (by decide) rfl (fun ls hl => ?_)
      refine lv_goto (tgt := 30) hx hb dX10_back_56 (by decide) ?_
      exact ih x2_8 f7 hf H locs ls hP hS (lv_sub hl [1, 2, 0] rfl)
def q_X10_back (N : Nat) (x1 : Int32) (f : mM) : Option (Int32 × mM) := sq (st2 f 0 0 0) (fun f1 => bi (q_X10_in x1 0 1) (fun y2 => if y2 = 0 then some ((-1), f1) else gi x1 2 (if (f1 10 (Int32.toNatClampNeg x1)) = 0 then some ((-2), f1) else bi (lp_X10_back_30 N x1 N 0 f1) (fun f9 => bi (q_X10_above N f9) (fun y11 => some (y11, f9))))))
set_option maxHeartbeats 4000000 in
set_option maxRecDepth 100000 in
theorem b_X10_back (C0 : cX p s m args meth c cX10_back 3 (some .int) RX10 wsX10_back D cy (xR)) (hj : jR ad) (hR : 1 ≤ R.frames ∧ 22 ≤ R.locals) (N : Nat) (x1 : Int32) (f : mM) (t : Int64) (r : Int32) (fR : mM) (hf : q_X10_back N x1 f = some (r, fR)) (kr : ∀ (H : Heap) (locs : List Loc) (ls : Array Slot) (pc : Nat), decode cX10_back pc = .ok (.ireturn, 1) → va_P D vwCl (wR ad cy fR t) H → va_S (aR ad) s.heap H locs → W p l e R s m args below meth c H locs 0 0 Q (F0 m pc ls [.int r])) (H : Heap) (locs : List Loc) (ls : Array Slot) (hP : va_P D vwCl (wR ad cy f t) H) (hS : va_S (aR ad) s.heap H locs) (hl : lv_has ls 3 [(0, .ref (ad 0)), (1, .int x1)]) : W p l e R s m args below meth c H locs 0 0 Q (F0 m 0 ls []) := by
  obtain ⟨hx, hb, hr, hml, hown, hts, hlocks, hK, hX0⟩ := id C0
  have lk69 := hts (.fieldLink RX10 69 "PlankNineModel" "thrown" "I") (List.mem_of_getElem? (i := 1) rfl)
  have hiX10 : ∀ w ∈ u_ws RX10 TX10 34, w ∈ wsX10_back := fun w h => List.mem_cons_of_mem _ (List.mem_append_right _ h)
  have lk37 := hts (.fieldLink RX10 37 "PlankNineModel" "isKept" "[Z") (List.mem_of_getElem? (i := 2) rfl)
  unfold q_X10_back at hf
  refine lv_aload_n hx hb dX10_back_0 rfl (lv_at hl 0 rfl) ?_
  refine lv_iconst (v := 0) hx hb dX10_back_1 (by decide) ?_
  obtain ⟨f1, ef1, hf⟩ := sq_out hf
  refine va_put (D := D) (ci := 10) (v := .int 0) (ty := .int) (C := RX10) (T := TX10) (N := 34) hx hb hts hiX10 tyX10 tyX10_ok nmX10 hown hK hP (dR hj f t) hS 0 rfl rfl 0 (by decide) lk69 (fun _ h9 => h9) rfl (by decide +kernel) rfl rfl (Nat.le_of_ble_eq_true rfl) dX10_back_2 (fun H locs hP _ hS => ?_)
  have hP := sR_0_0 ef1 hP
  refine lv_iload_n hx hb dX10_back_5 rfl (lv_at hl 1 rfl) ?_
  refine lv_iconst (v := 0) hx hb dX10_back_6 (by decide) ?_
  refine lv_iconst (v := 1) hx hb dX10_back_7 (by decide) ?_
  obtain ⟨y2, hq3, hf⟩ := bi_out hf
  refine cw_si (As := [.int x1, .int 0, .int 1]) (rest := []) ⟨hx, hb, hml, hown, hts⟩ xR_S hK hX0 hS hP (c_X10_in hj l x1 0 1 f1 t y2 hq3) (va_cwS 3 hts gX10_back_X10_in rfl rfl rfl (by decide +kernel) ⟨Nat.le_trans (Nat.le_of_ble_eq_true rfl) hR.1, Nat.le_trans (Nat.le_of_ble_eq_true rfl) hR.2⟩) rfl hl.1 rfl (Nat.le_of_ble_eq_true rfl) ⟨Nat.zero_le _, Nat.zero_le _⟩ dX10_back_8 (fun H locs hP hS => ?_)
  refine lv_if_ne (tgt := 16) hx hb dX10_back_11 (by decide) (fun c11 => ?_) (fun c11 => ?_)
  · have hf := itF hf c11
    refine lv_aload_n hx hb dX10_back_16 rfl (lv_at hl 0 rfl) ?_
    refine va_get (D := D) (ci := 10) (v := .ref (ad 10)) (C := RX10) (T := TX10) (N := 34) hx hb hts hiX10 hown hK hP 0 rfl rfl 25 (by decide) lk37 (fun _ h9 => h9) rfl dX10_back_17 ?_
    refine lv_iload_n hx hb dX10_back_20 rfl (lv_at hl 1 rfl) ?_
    obtain ⟨hin4, hf⟩ := gi_out hf
    refine va_zald hx hb hK hP 10 2 rfl rfl hin4 dX10_back_21 ?_
    refine lv_if_ne (tgt := 28) hx hb dX10_back_22 (by decide) (fun c22 => ?_) (fun c22 => ?_)
    · have hf := itF hf c22
      refine lv_iconst (v := 0) hx hb dX10_back_28 (by decide) ?_
      refine lv_istore_n (lv' := [(2, .int 0), (0, .ref (ad 0)), (1, .int x1)]) hx hb dX10_back_29 rfl hl (by decide) rfl (fun ls hl => ?_)
      obtain ⟨f9, hlp10, hf⟩ := bi_out hf
      refine lp_X10_back_30_w C0 hj hR N x1 t f9 ?_ N 0 f1 hlp10 H locs ls hP hS (lv_sub hl [1, 2, 0] rfl)
      intro H locs ls hP hS hl
      refine lv_aload_n hx hb dX10_back_59 rfl (lv_at hl 0 rfl) ?_
      obtain ⟨y11, hq12, hf⟩ := bi_out hf
      refine cw_vi (As := []) (rest := []) ⟨hx, hb, hml, hown, hts⟩ xR_S hK hX0 hS hP (c_X10_above hj l N f9 t y11 hq12) (cwV 0 hts gX10_back_X10_above rfl rfl rfl (by decide +kernel) ⟨Nat.le_trans (Nat.le_of_ble_eq_true rfl) hR.1, Nat.le_trans (Nat.le_of_ble_eq_true rfl) hR.2⟩) (va_recv hK hP (ci := 10) (q0 := 0) rfl rfl) rfl hl.1 rfl (Nat.le_of_ble_eq_true rfl) ⟨Nat.zero_le _, Nat.zero_le _⟩ dX10_back_60 (fun H locs hP hS => ?_)
      obtain ⟨rfl, rfl⟩ := Prod.mk.inj (Option.some.inj hf)
      exact kr H locs ls 63 dX10_back_63 hP hS
    · have hf := itT hf c22
      refine lv_bipush (v := (-2)) hx hb dX10_back_25 (by decide) ?_
      obtain ⟨rfl, rfl⟩ := Prod.mk.inj (Option.some.inj hf)
      exact kr H locs ls 27 dX10_back_27 hP hS
  · have hf := itT hf c11
    refine lv_iconst (v := (-1)) hx hb dX10_back_14 (by decide) ?_
    obtain ⟨rfl, rfl⟩ := Prod.mk.inj (Option.some.inj hf)
    exact kr H locs ls 15 dX10_back_15 hP hS
set_option maxHeartbeats 4000000 in
set_option maxRecDepth 100000 in
theorem c_X10_back (hj : jR ad) (l : Launch) (N : Nat) (x1 : Int32) (f : mM) (t : Int64) (r : Int32) (fR : mM) (hf : q_X10_back N x1 f = some (r, fR)) : Met l yX10_back wsX10_back ({ frames := 1, cells := 0, slots := 0, locals := 22 }) (va_Pc ([.ref (ad 0), .int x1]) (pre D cy (wR ad cy) (xR) f t)) (va_Qi (fun (r2 : Int32) (u : mM × Int64) => r2 = r ∧ u = (fR, t)) (atW D (wR ad cy)) (aR ad)) 0 0 (aR ad) := by
  refine Met.ofW (cc := cX10_back) (maxL := 3) (ret := (some .int)) (by decide) rfl ?_
  intro p e s m args below meth c s₁ B hml hv
  obtain ⟨rfl, hP, hK, hX0⟩ := hv
  have hl := lv_entry ([.ref (ad 0), .int x1]) (n := 3) (Nat.le_of_ble_eq_true rfl)
  rw [lg_entry_eq]
  generalize (lg_sl ([.ref (ad 0), .int x1]) ++ List.replicate (3 - (lg_sl ([.ref (ad 0), .int x1])).length) Slot.unset).toArray = ls at hl ⊢
  have hlocks := B.notSynchronized
  exact b_X10_back ⟨B.exec, B.bytes, B.returns, hml, findClass_of_methodNamed B.named, atoms_spec (ws := wsX10_back) B.pre, hlocks, hK, hX0⟩ hj ⟨Nat.le_refl _, Nat.le_refl _⟩ N x1 f t r fR hf (fun H locs ls pc hd hP hS => W.iret B.exec B.bytes B.returns (fun t2 ht hW => ⟨⟨r, (fR, t), rfl, ⟨rfl, rfl⟩, by show va_P D vwCl _ t2.heap; rw [ht]; exact hP⟩, hS.F ht⟩) hS.2.2 hd) s.heap [] ls hP va_S.rf hl
def q_X10_count (N : Nat) (x1 : Int32) (f : mM) : Option (Int32 × mM) := sq (st2 f 0 0 0) (fun f1 => if 4 ≤ x1 then if x1 = 4 then gi 9 50 (some ((f1 8 (Int32.toNatClampNeg 9)), f1)) else if x1 = 5 then bi (q_X10_bornNow N f1) (fun y2 => some (y2, f1)) else if x1 = 6 then some ((f1 0 3), f1) else some ((-1), f1) else if x1 = 0 then some ((f1 0 15), f1) else if x1 = 1 then some ((f1 0 16), f1) else if x1 = 2 then some ((f1 0 17), f1) else if x1 = 3 then some ((f1 0 18), f1) else some ((-1), f1))
set_option maxHeartbeats 4000000 in
set_option maxRecDepth 100000 in
theorem b_X10_count (C0 : cX p s m args meth c cX10_count 2 (some .int) RX10 wsX10_count D cy (xR)) (hj : jR ad) (hR : 1 ≤ R.frames ∧ 22 ≤ R.locals) (N : Nat) (x1 : Int32) (f : mM) (t : Int64) (r : Int32) (fR : mM) (hf : q_X10_count N x1 f = some (r, fR)) (kr : ∀ (H : Heap) (locs : List Loc) (ls : Array Slot) (pc : Nat), decode cX10_count pc = .ok (.ireturn, 1) → va_P D vwCl (wR ad cy fR t) H → va_S (aR ad) s.heap H locs → W p l e R s m args below meth c H locs 0 0 Q (F0 m pc ls [.int r])) (H : Heap) (locs : List Loc) (ls : Array Slot) (hP : va_P D vwCl (wR ad cy f t) H) (hS : va_S (aR ad) s.heap H locs) (hl : lv_has ls 2 [(0, .ref (ad 0)), (1, .int x1)]) : W p l e R s m args below meth c H locs 0 0 Q (F0 m 0 ls []) := by
  obtain ⟨hx, hb, hr, hml, hown, hts, hlocks, hK, hX0⟩ := id C0
  have lk69 := hts (.fieldLink RX10 69 "PlankNineModel" "thrown" "I") (List.mem_of_getElem? (i := 1) rfl)
  have hiX10 : ∀ w ∈ u_ws RX10 TX10 34, w ∈ wsX10_count := fun w h => List.mem_cons_of_mem _ (List.mem_append_right _ h)
  have lk76 := hts (.fieldLink RX10 76 "PlankNineModel" "typed" "I") (List.mem_of_getElem? (i := 7) rfl)
  have lk31 := hts (.fieldLink RX10 31 "PlankNineModel" "s" "[I") (List.mem_of_getElem? (i := 6) rfl)
  have lk154 := hts (.fieldLink RX10 154 "PlankNineModel" "errandMany" "I") (List.mem_of_getElem? (i := 5) rfl)
  have lk151 := hts (.fieldLink RX10 151 "PlankNineModel" "people" "I") (List.mem_of_getElem? (i := 4) rfl)
  have lk148 := hts (.fieldLink RX10 148 "PlankNineModel" "planks" "I") (List.mem_of_getElem? (i := 3) rfl)
  have lk65 := hts (.fieldLink RX10 65 "PlankNineModel" "places" "I") (List.mem_of_getElem? (i := 2) rfl)
  unfold q_X10_count at hf
  refine lv_aload_n hx hb dX10_count_0 rfl (lv_at hl 0 rfl) ?_
  refine lv_iconst (v := 0) hx hb dX10_count_1 (by decide) ?_
  obtain ⟨f1, ef1, hf⟩ := sq_out hf
  refine va_put (D := D) (ci := 10) (v := .int 0) (ty := .int) (C := RX10) (T := TX10) (N := 34) hx hb hts hiX10 tyX10 tyX10_ok nmX10 hown hK hP (dR hj f t) hS 0 rfl rfl 0 (by decide) lk69 (fun _ h9 => h9) rfl (by decide +kernel) rfl rfl (Nat.le_of_ble_eq_true rfl) dX10_count_2 (fun H locs hP _ hS => ?_)
  have hP := sR_0_0 ef1 hP
  refine lv_iload_n hx hb dX10_count_5 rfl (lv_at hl 1 rfl) ?_
  refine lv_iconst (v := 4) hx hb dX10_count_6 (by decide) ?_
  refine lv_icmp_ge (tgt := 59) hx hb dX10_count_7 (by decide) (fun c7 => ?_) (fun c7 => ?_)
  · have hf := itT hf c7
    refine lv_iload_n hx hb dX10_count_59 rfl (lv_at hl 1 rfl) ?_
    refine lv_iconst (v := 4) hx hb dX10_count_60 (by decide) ?_
    refine lv_icmp_ne (tgt := 74) hx hb dX10_count_61 (by decide) (fun c61 => ?_) (fun c61 => ?_)
    · have hf := itF hf c61
      refine lv_iload_n hx hb dX10_count_74 rfl (lv_at hl 1 rfl) ?_
      refine lv_iconst (v := 5) hx hb dX10_count_75 (by decide) ?_
      refine lv_icmp_ne (tgt := 86) hx hb dX10_count_76 (by decide) (fun c76 => ?_) (fun c76 => ?_)
      · have hf := itF hf c76
        refine lv_iload_n hx hb dX10_count_86 rfl (lv_at hl 1 rfl) ?_
        refine lv_bipush (v := 6) hx hb dX10_count_87 (by decide) ?_
        refine lv_icmp_ne (tgt := 99) hx hb dX10_count_89 (by decide) (fun c89 => ?_) (fun c89 => ?_)
        · have hf := itF hf c89
          refine lv_iconst (v := (-1)) hx hb dX10_count_99 (by decide) ?_
          obtain ⟨rfl, rfl⟩ := Prod.mk.inj (Option.some.inj hf)
          exact kr H locs ls 100 dX10_count_100 hP hS
        · have hf := itT hf c89
          refine lv_aload_n hx hb dX10_count_92 rfl (lv_at hl 0 rfl) ?_
          refine va_get (D := D) (ci := 10) (v := .int (f1 0 3)) (C := RX10) (T := TX10) (N := 34) hx hb hts hiX10 hown hK hP 0 rfl rfl 3 (by decide) lk76 (fun _ h9 => h9) rfl dX10_count_93 ?_
          refine lv_goto (tgt := 100) hx hb dX10_count_96 (by decide) ?_
          obtain ⟨rfl, rfl⟩ := Prod.mk.inj (Option.some.inj hf)
          exact kr H locs ls 100 dX10_count_100 hP hS
      · have hf := itT hf c76
        refine lv_aload_n hx hb dX10_count_79 rfl (lv_at hl 0 rfl) ?_
        obtain ⟨y2, hq3, hf⟩ := bi_out hf
        refine cw_vi (As := []) (rest := []) ⟨hx, hb, hml, hown, hts⟩ xR_S hK hX0 hS hP (c_X10_bornNow hj l N f1 t y2 hq3) (cwV 0 hts gX10_count_X10_bornNow rfl rfl rfl (by decide +kernel) ⟨Nat.le_trans (Nat.le_of_ble_eq_true rfl) hR.1, Nat.le_trans (Nat.le_of_ble_eq_true rfl) hR.2⟩) (va_recv hK hP (ci := 10) (q0 := 0) rfl rfl) rfl hl.1 rfl (Nat.le_of_ble_eq_true rfl) ⟨Nat.zero_le _, Nat.zero_le _⟩ dX10_count_80 (fun H locs hP hS => ?_)
        refine lv_goto (tgt := 100) hx hb dX10_count_83 (by decide) ?_
        obtain ⟨rfl, rfl⟩ := Prod.mk.inj (Option.some.inj hf)
        exact kr H locs ls 100 dX10_count_100 hP hS
    · have hf := itT hf c61
      refine lv_aload_n hx hb dX10_count_64 rfl (lv_at hl 0 rfl) ?_
      refine va_get (D := D) (ci := 10) (v := .ref (ad 8)) (C := RX10) (T := TX10) (N := 34) hx hb hts hiX10 hown hK hP 0 rfl rfl 23 (by decide) lk31 (fun _ h9 => h9) rfl dX10_count_65 ?_
      refine lv_bipush (v := 9) hx hb dX10_count_68 (by decide) ?_
      obtain ⟨hin4, hf⟩ := gi_out hf
      refine va_iald hx hb hK hP 8 1 rfl rfl hin4 dX10_count_70 ?_
      refine lv_goto (tgt := 100) hx hb dX10_count_71 (by decide) ?_
      obtain ⟨rfl, rfl⟩ := Prod.mk.inj (Option.some.inj hf)
      exact kr H locs ls 100 dX10_count_100 hP hS
  · have hf := itF hf c7
    refine lv_iload_n hx hb dX10_count_10 rfl (lv_at hl 1 rfl) ?_
    refine lv_if_ne (tgt := 21) hx hb dX10_count_11 (by decide) (fun c11 => ?_) (fun c11 => ?_)
    · have hf := itF hf c11
      refine lv_iload_n hx hb dX10_count_21 rfl (lv_at hl 1 rfl) ?_
      refine lv_iconst (v := 1) hx hb dX10_count_22 (by decide) ?_
      refine lv_icmp_ne (tgt := 33) hx hb dX10_count_23 (by decide) (fun c23 => ?_) (fun c23 => ?_)
      · have hf := itF hf c23
        refine lv_iload_n hx hb dX10_count_33 rfl (lv_at hl 1 rfl) ?_
        refine lv_iconst (v := 2) hx hb dX10_count_34 (by decide) ?_
        refine lv_icmp_ne (tgt := 45) hx hb dX10_count_35 (by decide) (fun c35 => ?_) (fun c35 => ?_)
        · have hf := itF hf c35
          refine lv_iload_n hx hb dX10_count_45 rfl (lv_at hl 1 rfl) ?_
          refine lv_iconst (v := 3) hx hb dX10_count_46 (by decide) ?_
          refine lv_icmp_ne (tgt := 57) hx hb dX10_count_47 (by decide) (fun c47 => ?_) (fun c47 => ?_)
          · have hf := itF hf c47
            refine lv_iconst (v := (-1)) hx hb dX10_count_57 (by decide) ?_
            obtain ⟨rfl, rfl⟩ := Prod.mk.inj (Option.some.inj hf)
            exact kr H locs ls 58 dX10_count_58 hP hS
          · have hf := itT hf c47
            refine lv_aload_n hx hb dX10_count_50 rfl (lv_at hl 0 rfl) ?_
            refine va_get (D := D) (ci := 10) (v := .int (f1 0 18)) (C := RX10) (T := TX10) (N := 34) hx hb hts hiX10 hown hK hP 0 rfl rfl 18 (by decide) lk154 (fun _ h9 => h9) rfl dX10_count_51 ?_
            refine lv_goto (tgt := 58) hx hb dX10_count_54 (by decide) ?_
            obtain ⟨rfl, rfl⟩ := Prod.mk.inj (Option.some.inj hf)
            exact kr H locs ls 58 dX10_count_58 hP hS
        · have hf := itT hf c35
          refine lv_aload_n hx hb dX10_count_38 rfl (lv_at hl 0 rfl) ?_
          refine va_get (D := D) (ci := 10) (v := .int (f1 0 17)) (C := RX10) (T := TX10) (N := 34) hx hb hts hiX10 hown hK hP 0 rfl rfl 17 (by decide) lk151 (fun _ h9 => h9) rfl dX10_count_39 ?_
          refine lv_goto (tgt := 58) hx hb dX10_count_42 (by decide) ?_
          obtain ⟨rfl, rfl⟩ := Prod.mk.inj (Option.some.inj hf)
          exact kr H locs ls 58 dX10_count_58 hP hS
      · have hf := itT hf c23
        refine lv_aload_n hx hb dX10_count_26 rfl (lv_at hl 0 rfl) ?_
        refine va_get (D := D) (ci := 10) (v := .int (f1 0 16)) (C := RX10) (T := TX10) (N := 34) hx hb hts hiX10 hown hK hP 0 rfl rfl 16 (by decide) lk148 (fun _ h9 => h9) rfl dX10_count_27 ?_
        refine lv_goto (tgt := 58) hx hb dX10_count_30 (by decide) ?_
        obtain ⟨rfl, rfl⟩ := Prod.mk.inj (Option.some.inj hf)
        exact kr H locs ls 58 dX10_count_58 hP hS
    · have hf := itT hf c11
      refine lv_aload_n hx hb dX10_count_14 rfl (lv_at hl 0 rfl) ?_
      refine va_get (D := D) (ci := 10) (v := .int (f1 0 15)) (C := RX10) (T := TX10) (N := 34) hx hb hts hiX10 hown hK hP 0 rfl rfl 15 (by decide) lk65 (fun _ h9 => h9) rfl dX10_count_15 ?_
      refine lv_goto (tgt := 58) hx hb dX10_count_18 (by decide) ?_
      obtain ⟨rfl, rfl⟩ := Prod.mk.inj (Option.some.inj hf)
      exact kr H locs ls 58 dX10_count_58 hP hS
set_option maxHeartbeats 4000000 in
set_option maxRecDepth 100000 in
theorem c_X10_count (hj : jR ad) (l : Launch) (N : Nat) (x1 : Int32) (f : mM) (t : Int64) (r : Int32) (fR : mM) (hf : q_X10_count N x1 f = some (r, fR)) : Met l yX10_count wsX10_count ({ frames := 1, cells := 0, slots := 0, locals := 22 }) (va_Pc ([.ref (ad 0), .int x1]) (pre D cy (wR ad cy) (xR) f t)) (va_Qi (fun (r2 : Int32) (u : mM × Int64) => r2 = r ∧ u = (fR, t)) (atW D (wR ad cy)) (aR ad)) 0 0 (aR ad) := by
  refine Met.ofW (cc := cX10_count) (maxL := 2) (ret := (some .int)) (by decide) rfl ?_
  intro p e s m args below meth c s₁ B hml hv
  obtain ⟨rfl, hP, hK, hX0⟩ := hv
  have hl := lv_entry ([.ref (ad 0), .int x1]) (n := 2) (Nat.le_of_ble_eq_true rfl)
  rw [lg_entry_eq]
  generalize (lg_sl ([.ref (ad 0), .int x1]) ++ List.replicate (2 - (lg_sl ([.ref (ad 0), .int x1])).length) Slot.unset).toArray = ls at hl ⊢
  have hlocks := B.notSynchronized
  exact b_X10_count ⟨B.exec, B.bytes, B.returns, hml, findClass_of_methodNamed B.named, atoms_spec (ws := wsX10_count) B.pre, hlocks, hK, hX0⟩ hj ⟨Nat.le_refl _, Nat.le_refl _⟩ N x1 f t r fR hf (fun H locs ls pc hd hP hS => W.iret B.exec B.bytes B.returns (fun t2 ht hW => ⟨⟨r, (fR, t), rfl, ⟨rfl, rfl⟩, by show va_P D vwCl _ t2.heap; rw [ht]; exact hP⟩, hS.F ht⟩) hS.2.2 hd) s.heap [] ls hP va_S.rf hl
def q_X10_trace (f : mM) (t : Int64) : Option (Int64 × mM) := sq (st2 f 0 0 0) (fun f1 => some (t, f1))
set_option maxHeartbeats 4000000 in
set_option maxRecDepth 100000 in
theorem b_X10_trace (C0 : cX p s m args meth c cX10_trace 1 (some .long) RX10 wsX10_trace D cy (xR)) (hj : jR ad) (hR : 0 ≤ R.frames ∧ 0 ≤ R.locals)  (f : mM) (t : Int64) (r : Int64) (fR : mM) (hf : q_X10_trace f t = some (r, fR)) (kr : ∀ (H : Heap) (locs : List Loc) (ls : Array Slot) (pc : Nat), decode cX10_trace pc = .ok (.lreturn, 1) → va_P D vwCl (wR ad cy fR t) H → va_S (aR ad) s.heap H locs → W p l e R s m args below meth c H locs 0 0 Q (F0 m pc ls [.long r])) (H : Heap) (locs : List Loc) (ls : Array Slot) (hP : va_P D vwCl (wR ad cy f t) H) (hS : va_S (aR ad) s.heap H locs) (hl : lv_has ls 1 [(0, .ref (ad 0))]) : W p l e R s m args below meth c H locs 0 0 Q (F0 m 0 ls []) := by
  obtain ⟨hx, hb, hr, hml, hown, hts, hlocks, hK, hX0⟩ := id C0
  have lk69 := hts (.fieldLink RX10 69 "PlankNineModel" "thrown" "I") (List.mem_of_getElem? (i := 1) rfl)
  have hiX10 : ∀ w ∈ u_ws RX10 TX10 34, w ∈ wsX10_trace := fun w h => List.mem_cons_of_mem _ (List.mem_append_right _ h)
  have lk231 := hts (.fieldLink RX10 231 "PlankNineModel" "trace" "J") (List.mem_of_getElem? (i := 2) rfl)
  unfold q_X10_trace at hf
  refine lv_aload_n hx hb dX10_trace_0 rfl (lv_at hl 0 rfl) ?_
  refine lv_iconst (v := 0) hx hb dX10_trace_1 (by decide) ?_
  obtain ⟨f1, ef1, hf⟩ := sq_out hf
  refine va_put (D := D) (ci := 10) (v := .int 0) (ty := .int) (C := RX10) (T := TX10) (N := 34) hx hb hts hiX10 tyX10 tyX10_ok nmX10 hown hK hP (dR hj f t) hS 0 rfl rfl 0 (by decide) lk69 (fun _ h9 => h9) rfl (by decide +kernel) rfl rfl (Nat.le_of_ble_eq_true rfl) dX10_trace_2 (fun H locs hP _ hS => ?_)
  have hP := sR_0_0 ef1 hP
  refine lv_aload_n hx hb dX10_trace_5 rfl (lv_at hl 0 rfl) ?_
  refine va_get (D := D) (ci := 10) (v := .long t) (C := RX10) (T := TX10) (N := 34) hx hb hts hiX10 hown hK hP 0 rfl rfl 1 (by decide) lk231 (fun _ h9 => h9) rfl dX10_trace_6 ?_
  obtain ⟨rfl, rfl⟩ := Prod.mk.inj (Option.some.inj hf)
  exact kr H locs ls 9 dX10_trace_9 hP hS
set_option maxHeartbeats 4000000 in
set_option maxRecDepth 100000 in
theorem c_X10_trace (hj : jR ad) (l : Launch)  (f : mM) (t : Int64) (r : Int64) (fR : mM) (hf : q_X10_trace f t = some (r, fR)) : Met l yX10_trace wsX10_trace ({ frames := 0, cells := 0, slots := 0, locals := 0 }) (va_Pc ([.ref (ad 0)]) (pre D cy (wR ad cy) (xR) f t)) (va_Ql (fun (r2 : Int64) (u : mM × Int64) => r2 = r ∧ u = (fR, t)) (atW D (wR ad cy)) (aR ad)) 0 0 (aR ad) := by
  refine Met.ofW (cc := cX10_trace) (maxL := 1) (ret := (some .long)) (by decide) rfl ?_
  intro p e s m args below meth c s₁ B hml hv
  obtain ⟨rfl, hP, hK, hX0⟩ := hv
  have hl := lv_entry ([.ref (ad 0)]) (n := 1) (Nat.le_of_ble_eq_true rfl)
  rw [lg_entry_eq]
  generalize (lg_sl ([.ref (ad 0)]) ++ List.replicate (1 - (lg_sl ([.ref (ad 0)])).length) Slot.unset).toArray = ls at hl ⊢
  have hlocks := B.notSynchronized
  exact b_X10_trace ⟨B.exec, B.bytes, B.returns, hml, findClass_of_methodNamed B.named, atoms_spec (ws := wsX10_trace) B.pre, hlocks, hK, hX0⟩ hj ⟨Nat.le_refl _, Nat.le_refl _⟩  f t r fR hf (fun H locs ls pc hd hP hS => W.lret B.exec B.bytes B.returns (fun t2 ht hW => ⟨⟨r, (fR, t), rfl, ⟨rfl, rfl⟩, by show va_P D vwCl _ t2.heap; rw [ht]; exact hP⟩, hS.F ht⟩) hS.2.2 hd) s.heap [] ls hP va_S.rf hl
