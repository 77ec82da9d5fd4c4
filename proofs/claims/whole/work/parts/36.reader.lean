variable {p : Program} {l : Launch} {e : Env} {R : Room} {s : State} {m : MethodId} {args : Array Value} {below : List Frame} {meth : Method} {c : Code} {Q : State → Prop} {D : va_G} {cy : Nat → ClassId} {ad sk sv : Nat → Nat}
def q_X4_isDigit (x0 : Int32) : Option (Int32) := if x0 < 48 then rz 0 (some 0) else if 57 < x0 then rz 0 (some 0) else rz 1 (some 1)
set_option maxHeartbeats 4000000 in
set_option maxRecDepth 100000 in
theorem b_X4_isDigit (C0 : cX p s m args meth c cX4_isDigit 1 (some .boolean) RX4 wsX4_isDigit D cy (xP ad sk sv)) (hj : jP ad) (hR : 0 ≤ R.frames ∧ 0 ≤ R.locals) (x0 : Int32) (f : mM) (t : Int64) (r : Int32) (hf : q_X4_isDigit x0 = some r) (kr : ∀ (H : Heap) (locs : List Loc) (ls : Array Slot) (pc : Nat), decode cX4_isDigit pc = .ok (.ireturn, 1) → narrow .boolean (.int r) = .int r → va_P D vwCl (wP ad cy f t) H → va_S (aP ad) s.heap H locs → W p l e R s m args below meth c H locs 0 0 Q (F0 m pc ls [.int r])) (H : Heap) (locs : List Loc) (ls : Array Slot) (hP : va_P D vwCl (wP ad cy f t) H) (hS : va_S (aP ad) s.heap H locs) (hl : lv_has ls 1 [(0, .int x0)]) : W p l e R s m args below meth c H locs 0 0 Q (F0 m 0 ls []) := by
  obtain ⟨hx, hb, hr, hml, hown, hts, hlocks, hK, hX0⟩ := id C0
  unfold q_X4_isDigit at hf
  refine lv_iload_n hx hb dX4_isDigit_0 rfl (lv_at hl 0 rfl) ?_
  refine lv_bipush (v := 48) hx hb dX4_isDigit_1 (by decide) ?_
  refine lv_icmp_lt (tgt := 16) hx hb dX4_isDigit_3 (by decide) (fun c3 => ?_) (fun c3 => ?_)
  · have hf := itT hf c3
    refine lv_iconst (v := 0) hx hb dX4_isDigit_16 (by decide) ?_
    obtain ⟨hz, hf⟩ := rz_out hf
    obtain rfl := Option.some.inj hf
    exact kr H locs ls 17 dX4_isDigit_17 hz hP hS
  · have hf := itF hf c3
    refine lv_iload_n hx hb dX4_isDigit_6 rfl (lv_at hl 0 rfl) ?_
    refine lv_bipush (v := 57) hx hb dX4_isDigit_7 (by decide) ?_
    refine lv_icmp_gt (tgt := 16) hx hb dX4_isDigit_9 (by decide) (fun c9 => ?_) (fun c9 => ?_)
    · have hf := itT hf c9
      refine lv_iconst (v := 0) hx hb dX4_isDigit_16 (by decide) ?_
      obtain ⟨hz, hf⟩ := rz_out hf
      obtain rfl := Option.some.inj hf
      exact kr H locs ls 17 dX4_isDigit_17 hz hP hS
    · have hf := itF hf c9
      refine lv_iconst (v := 1) hx hb dX4_isDigit_12 (by decide) ?_
      refine lv_goto (tgt := 17) hx hb dX4_isDigit_13 (by decide) ?_
      obtain ⟨hz, hf⟩ := rz_out hf
      obtain rfl := Option.some.inj hf
      exact kr H locs ls 17 dX4_isDigit_17 hz hP hS
set_option maxHeartbeats 4000000 in
set_option maxRecDepth 100000 in
theorem c_X4_isDigit (hj : jP ad) (l : Launch) (x0 : Int32) (f : mM) (t : Int64) (r : Int32) (hf : q_X4_isDigit x0 = some r) : Met l yX4_isDigit wsX4_isDigit ({ frames := 0, cells := 0, slots := 0, locals := 0 }) (va_Pc ([.int x0]) (pre D cy (wP ad cy) (xP ad sk sv) f t)) (va_Qi (fun (r2 : Int32) (u : mM × Int64) => r2 = r ∧ u = (f, t)) (atW D (wP ad cy)) (aP ad)) 0 0 (aP ad) := by
  refine Met.ofW (cc := cX4_isDigit) (maxL := 1) (ret := (some .boolean)) (by decide) rfl ?_
  intro p e s m args below meth c s₁ B hml hv
  obtain ⟨rfl, hP, hK, hX0⟩ := hv
  have hl := lv_entry ([.int x0]) (n := 1) (Nat.le_of_ble_eq_true rfl)
  rw [lg_entry_eq]
  generalize (lg_sl ([.int x0]) ++ List.replicate (1 - (lg_sl ([.int x0])).length) Slot.unset).toArray = ls at hl ⊢
  have hlocks := B.notSynchronized
  exact b_X4_isDigit ⟨B.exec, B.bytes, B.returns, hml, findClass_of_methodNamed B.named, atoms_spec (ws := wsX4_isDigit) B.pre, hlocks, hK, hX0⟩ hj ⟨Nat.le_refl _, Nat.le_refl _⟩ x0 f t r hf (fun H locs ls pc hd hz hP hS => W.zret B.exec B.bytes B.returns hz (fun t2 ht hW => ⟨⟨r, (f, t), rfl, ⟨rfl, rfl⟩, by show va_P D vwCl _ t2.heap; rw [ht]; exact hP⟩, hS.F ht⟩) hS.2.2 hd) s.heap [] ls hP va_S.rf hl
def q_X4_isLetter (x0 : Int32) : Option (Int32) := if x0 < 97 then rz 0 (some 0) else if 122 < x0 then rz 0 (some 0) else rz 1 (some 1)
set_option maxHeartbeats 4000000 in
set_option maxRecDepth 100000 in
theorem b_X4_isLetter (C0 : cX p s m args meth c cX4_isLetter 1 (some .boolean) RX4 wsX4_isLetter D cy (xP ad sk sv)) (hj : jP ad) (hR : 0 ≤ R.frames ∧ 0 ≤ R.locals) (x0 : Int32) (f : mM) (t : Int64) (r : Int32) (hf : q_X4_isLetter x0 = some r) (kr : ∀ (H : Heap) (locs : List Loc) (ls : Array Slot) (pc : Nat), decode cX4_isLetter pc = .ok (.ireturn, 1) → narrow .boolean (.int r) = .int r → va_P D vwCl (wP ad cy f t) H → va_S (aP ad) s.heap H locs → W p l e R s m args below meth c H locs 0 0 Q (F0 m pc ls [.int r])) (H : Heap) (locs : List Loc) (ls : Array Slot) (hP : va_P D vwCl (wP ad cy f t) H) (hS : va_S (aP ad) s.heap H locs) (hl : lv_has ls 1 [(0, .int x0)]) : W p l e R s m args below meth c H locs 0 0 Q (F0 m 0 ls []) := by
  obtain ⟨hx, hb, hr, hml, hown, hts, hlocks, hK, hX0⟩ := id C0
  unfold q_X4_isLetter at hf
  refine lv_iload_n hx hb dX4_isLetter_0 rfl (lv_at hl 0 rfl) ?_
  refine lv_bipush (v := 97) hx hb dX4_isLetter_1 (by decide) ?_
  refine lv_icmp_lt (tgt := 16) hx hb dX4_isLetter_3 (by decide) (fun c3 => ?_) (fun c3 => ?_)
  · have hf := itT hf c3
    refine lv_iconst (v := 0) hx hb dX4_isLetter_16 (by decide) ?_
    obtain ⟨hz, hf⟩ := rz_out hf
    obtain rfl := Option.some.inj hf
    exact kr H locs ls 17 dX4_isLetter_17 hz hP hS
  · have hf := itF hf c3
    refine lv_iload_n hx hb dX4_isLetter_6 rfl (lv_at hl 0 rfl) ?_
    refine lv_bipush (v := 122) hx hb dX4_isLetter_7 (by decide) ?_
    refine lv_icmp_gt (tgt := 16) hx hb dX4_isLetter_9 (by decide) (fun c9 => ?_) (fun c9 => ?_)
    · have hf := itT hf c9
      refine lv_iconst (v := 0) hx hb dX4_isLetter_16 (by decide) ?_
      obtain ⟨hz, hf⟩ := rz_out hf
      obtain rfl := Option.some.inj hf
      exact kr H locs ls 17 dX4_isLetter_17 hz hP hS
    · have hf := itF hf c9
      refine lv_iconst (v := 1) hx hb dX4_isLetter_12 (by decide) ?_
      refine lv_goto (tgt := 17) hx hb dX4_isLetter_13 (by decide) ?_
      obtain ⟨hz, hf⟩ := rz_out hf
      obtain rfl := Option.some.inj hf
      exact kr H locs ls 17 dX4_isLetter_17 hz hP hS
set_option maxHeartbeats 4000000 in
set_option maxRecDepth 100000 in
theorem c_X4_isLetter (hj : jP ad) (l : Launch) (x0 : Int32) (f : mM) (t : Int64) (r : Int32) (hf : q_X4_isLetter x0 = some r) : Met l yX4_isLetter wsX4_isLetter ({ frames := 0, cells := 0, slots := 0, locals := 0 }) (va_Pc ([.int x0]) (pre D cy (wP ad cy) (xP ad sk sv) f t)) (va_Qi (fun (r2 : Int32) (u : mM × Int64) => r2 = r ∧ u = (f, t)) (atW D (wP ad cy)) (aP ad)) 0 0 (aP ad) := by
  refine Met.ofW (cc := cX4_isLetter) (maxL := 1) (ret := (some .boolean)) (by decide) rfl ?_
  intro p e s m args below meth c s₁ B hml hv
  obtain ⟨rfl, hP, hK, hX0⟩ := hv
  have hl := lv_entry ([.int x0]) (n := 1) (Nat.le_of_ble_eq_true rfl)
  rw [lg_entry_eq]
  generalize (lg_sl ([.int x0]) ++ List.replicate (1 - (lg_sl ([.int x0])).length) Slot.unset).toArray = ls at hl ⊢
  have hlocks := B.notSynchronized
  exact b_X4_isLetter ⟨B.exec, B.bytes, B.returns, hml, findClass_of_methodNamed B.named, atoms_spec (ws := wsX4_isLetter) B.pre, hlocks, hK, hX0⟩ hj ⟨Nat.le_refl _, Nat.le_refl _⟩ x0 f t r hf (fun H locs ls pc hd hz hP hS => W.zret B.exec B.bytes B.returns hz (fun t2 ht hW => ⟨⟨r, (f, t), rfl, ⟨rfl, rfl⟩, by show va_P D vwCl _ t2.heap; rw [ht]; exact hP⟩, hS.F ht⟩) hS.2.2 hd) s.heap [] ls hP va_S.rf hl
def lp_X4_isWord_12_0_20 (N : Nat) (f : mM) : Nat → Int32 → Option (Nat)
  | 0, _ => none
  | n + 1, x2 => if 5 ≤ x2 then some 1 else bi (q_X7_byteAt ((f 12 3) + x2) f) (fun y1 => gi x2 5 (if y1 = (sch 0 x2) then sq (x2 + 1) (fun x2_4 => lp_X4_isWord_12_0_20 N f n x2_4) else some 0))
theorem lp_X4_isWord_12_0_20_s (N : Nat) (f : mM) (n : Nat) (x2 : Int32) : lp_X4_isWord_12_0_20 N f (n + 1) x2 = (if 5 ≤ x2 then some 1 else bi (q_X7_byteAt ((f 12 3) + x2) f) (fun y1 => gi x2 5 (if y1 = (sch 0 x2) then sq (x2 + 1) (fun x2_4 => lp_X4_isWord_12_0_20 N f n x2_4) else some 0))) := rfl
set_option maxHeartbeats 4000000 in
set_option maxRecDepth 100000 in
theorem lp_X4_isWord_12_0_20_w (C0 : cX p s m args meth c cX4_isWord 3 (some .boolean) RX4 wsX4_isWord D cy (xP ad sk sv)) (hj : jP ad) (hR : 4 ≤ R.frames ∧ 85 ≤ R.locals) (N : Nat)  (f : mM) (t : Int64) (g0 : Nat) (kx49 : g0 = 0 → ∀ (H : Heap) (locs : List Loc) (ls : Array Slot), va_P D vwCl (wP ad cy f t) H → va_S (aP ad) s.heap H locs → lv_has ls 3 [] → W p l e R s m args below meth c H locs 0 0 Q (F0 m 49 ls [])) (kx57 : g0 = 1 → ∀ (H : Heap) (locs : List Loc) (ls : Array Slot), va_P D vwCl (wP ad cy f t) H → va_S (aP ad) s.heap H locs → lv_has ls 3 [] → W p l e R s m args below meth c H locs 0 0 Q (F0 m 57 ls [])) : ∀ (n : Nat) (x2 : Int32), lp_X4_isWord_12_0_20 N f n x2 = some g0 → ∀ (H : Heap) (locs : List Loc) (ls : Array Slot), va_P D vwCl (wP ad cy f t) H → va_S (aP ad) s.heap H locs → lv_has ls 3 [(0, .ref (ad 12)), (1, .ref (sk 0)), (2, .int x2)] → W p l e R s m args below meth c H locs 0 0 Q (F0 m 20 ls []) := by
  obtain ⟨hx, hb, hr, hml, hown, hts, hlocks, hK, hX0⟩ := id C0
  have lk35 := hts (.fieldLink RX4 35 "PlankNine$Reader" "text" "LPlankNine$Text;") (List.mem_of_getElem? (i := 3) rfl)
  have hiX4 : ∀ w ∈ u_ws RX4 TX4 7, w ∈ wsX4_isWord := fun w h => List.mem_cons_of_mem _ (List.mem_append_left _ (List.mem_append_right _ h))
  have lk22 := hts (.fieldLink RX4 22 "PlankNine$Reader" "start" "I") (List.mem_of_getElem? (i := 2) rfl)
  intro n
  induction n with
  | zero =>
    intro x2 hf
    exact no_none hf
  | succ n ih =>
    intro x2 hf H locs ls hP hS hl
    have hf := (lp_X4_isWord_12_0_20_s N f n x2).symm.trans hf
    refine lv_iload_n hx hb dX4_isWord_20 rfl (lv_at hl 2 rfl) ?_
    refine lv_aload_n hx hb dX4_isWord_21 rfl (lv_at hl 1 rfl) ?_
    refine cw_vi (As := []) (rest := [.int x2]) ⟨hx, hb, hml, hown, hts⟩ xP_S hK hX0 hS hP (c_J0_length l 0 (by decide) f t 5 (by decide)) (cwV 0 hts gX4_isWord_J0_length_8abf5 rfl rfl rfl (by decide +kernel) ⟨Nat.le_trans (Nat.le_of_ble_eq_true rfl) hR.1, Nat.le_trans (Nat.le_of_ble_eq_true rfl) hR.2⟩) (vk_recv hX0.2.1 (i := 0) (by decide) hS) rfl hl.1 rfl (Nat.le_of_ble_eq_true rfl) ⟨Nat.zero_le _, Nat.zero_le _⟩ dX4_isWord_22 (fun H locs hP hS => ?_)
    refine lv_icmp_ge (tgt := 57) hx hb dX4_isWord_25 (by decide) (fun c25 => ?_) (fun c25 => ?_)
    · have hf := itT hf c25
      obtain rfl := Option.some.inj hf
      exact kx57 rfl H locs ls hP hS (lv_sub hl [] rfl)
    · have hf := itF hf c25
      refine lv_aload_n hx hb dX4_isWord_28 rfl (lv_at hl 0 rfl) ?_
      refine va_get (D := D) (ci := 4) (v := .ref (ad 1)) (C := RX4) (T := TX4) (N := 7) hx hb hts hiX4 hown hK hP 12 rfl rfl 0 (by decide) lk35 (fun _ h9 => h9) rfl dX4_isWord_29 ?_
      refine lv_aload_n hx hb dX4_isWord_32 rfl (lv_at hl 0 rfl) ?_
      refine va_get (D := D) (ci := 4) (v := .int (f 12 3)) (C := RX4) (T := TX4) (N := 7) hx hb hts hiX4 hown hK hP 12 rfl rfl 3 (by decide) lk22 (fun _ h9 => h9) rfl dX4_isWord_33 ?_
      refine lv_iload_n hx hb dX4_isWord_36 rfl (lv_at hl 2 rfl) ?_
      refine lv_iadd hx hb dX4_isWord_37 ?_
      obtain ⟨y1, hq2, hf⟩ := bi_out hf
      refine cw_vi (As := [.int ((f 12 3) + x2)]) (rest := []) ⟨hx, hb, hml, hown, hts⟩ xP_S hK hX0 hS hP (c_X7_byteAt hj l ((f 12 3) + x2) f t y1 hq2) (cwV 1 hts gX4_isWord_X7_byteAt rfl rfl rfl (by decide +kernel) ⟨Nat.le_trans (Nat.le_of_ble_eq_true rfl) hR.1, Nat.le_trans (Nat.le_of_ble_eq_true rfl) hR.2⟩) (va_recv hK hP (ci := 7) (q0 := 1) rfl rfl) rfl hl.1 rfl (Nat.le_of_ble_eq_true rfl) ⟨Nat.zero_le _, Nat.zero_le _⟩ dX4_isWord_38 (fun H locs hP hS => ?_)
      refine lv_aload_n hx hb dX4_isWord_41 rfl (lv_at hl 1 rfl) ?_
      refine lv_iload_n hx hb dX4_isWord_42 rfl (lv_at hl 2 rfl) ?_
      obtain ⟨hin3, hf⟩ := gi_out hf
      refine cw_vi (As := [.int x2]) (rest := [.int y1]) ⟨hx, hb, hml, hown, hts⟩ xP_S hK hX0 hS hP (c_J0_charAt l 0 (by decide) x2 hin3 f t) (cwV 1 hts gX4_isWord_J0_charAt_5068e rfl rfl rfl (by decide +kernel) ⟨Nat.le_trans (Nat.le_of_ble_eq_true rfl) hR.1, Nat.le_trans (Nat.le_of_ble_eq_true rfl) hR.2⟩) (vk_recv hX0.2.1 (i := 0) (by decide) hS) rfl hl.1 rfl (Nat.le_of_ble_eq_true rfl) ⟨Nat.zero_le _, Nat.zero_le _⟩ dX4_isWord_43 (fun H locs hP hS => ?_)
      refine lv_icmp_eq (tgt := 51) hx hb dX4_isWord_46 (by decide) (fun c46 => ?_) (fun c46 => ?_)
      · have hf := itT hf c46
        obtain ⟨x2_4, ex2_4, hf⟩ := sq_out hf
        refine lv_iinc (v := x2_4) (lv' := [(2, .int x2_4), (0, .ref (ad 12)), (1, .ref (sk 0))]) hx hb dX4_isWord_51 hl (k := 2) rfl (by rw [ex2_4]; rfl) (by decide) rfl (fun ls hl => ?_)
        refine lv_goto (tgt := 20) hx hb dX4_isWord_54 (by decide) ?_
        exact ih x2_4 hf H locs ls hP hS (lv_sub hl [1, 2, 0] rfl)
      · have hf := itF hf c46
        obtain rfl := Option.some.inj hf
        exact kx49 rfl H locs ls hP hS (lv_sub hl [] rfl)
def q_X4_isWord_12_0 (N : Nat) (f : mM) : Option (Int32) := if ((f 12 4) - (f 12 3)) = 5 then bi (lp_X4_isWord_12_0_20 N f N 0) (fun g5 => if g5 = 0 then rz 0 (some 0) else if g5 = 1 then rz 1 (some 1) else none) else rz 0 (some 0)
set_option maxHeartbeats 4000000 in
set_option maxRecDepth 100000 in
theorem b_X4_isWord_12_0 (C0 : cX p s m args meth c cX4_isWord 3 (some .boolean) RX4 wsX4_isWord D cy (xP ad sk sv)) (hj : jP ad) (hR : 4 ≤ R.frames ∧ 85 ≤ R.locals) (N : Nat)  (f : mM) (t : Int64) (r : Int32) (hf : q_X4_isWord_12_0 N f = some r) (kr : ∀ (H : Heap) (locs : List Loc) (ls : Array Slot) (pc : Nat), decode cX4_isWord pc = .ok (.ireturn, 1) → narrow .boolean (.int r) = .int r → va_P D vwCl (wP ad cy f t) H → va_S (aP ad) s.heap H locs → W p l e R s m args below meth c H locs 0 0 Q (F0 m pc ls [.int r])) (H : Heap) (locs : List Loc) (ls : Array Slot) (hP : va_P D vwCl (wP ad cy f t) H) (hS : va_S (aP ad) s.heap H locs) (hl : lv_has ls 3 [(0, .ref (ad 12)), (1, .ref (sk 0))]) : W p l e R s m args below meth c H locs 0 0 Q (F0 m 0 ls []) := by
  obtain ⟨hx, hb, hr, hml, hown, hts, hlocks, hK, hX0⟩ := id C0
  have lk25 := hts (.fieldLink RX4 25 "PlankNine$Reader" "behind" "I") (List.mem_of_getElem? (i := 1) rfl)
  have hiX4 : ∀ w ∈ u_ws RX4 TX4 7, w ∈ wsX4_isWord := fun w h => List.mem_cons_of_mem _ (List.mem_append_left _ (List.mem_append_right _ h))
  have lk22 := hts (.fieldLink RX4 22 "PlankNine$Reader" "start" "I") (List.mem_of_getElem? (i := 2) rfl)
  unfold q_X4_isWord_12_0 at hf
  refine lv_aload_n hx hb dX4_isWord_0 rfl (lv_at hl 0 rfl) ?_
  refine va_get (D := D) (ci := 4) (v := .int (f 12 4)) (C := RX4) (T := TX4) (N := 7) hx hb hts hiX4 hown hK hP 12 rfl rfl 4 (by decide) lk25 (fun _ h9 => h9) rfl dX4_isWord_1 ?_
  refine lv_aload_n hx hb dX4_isWord_4 rfl (lv_at hl 0 rfl) ?_
  refine va_get (D := D) (ci := 4) (v := .int (f 12 3)) (C := RX4) (T := TX4) (N := 7) hx hb hts hiX4 hown hK hP 12 rfl rfl 3 (by decide) lk22 (fun _ h9 => h9) rfl dX4_isWord_5 ?_
  refine lv_isub hx hb dX4_isWord_8 ?_
  refine lv_aload_n hx hb dX4_isWord_9 rfl (lv_at hl 1 rfl) ?_
  refine cw_vi (As := []) (rest := [.int ((f 12 4) - (f 12 3))]) ⟨hx, hb, hml, hown, hts⟩ xP_S hK hX0 hS hP (c_J0_length l 0 (by decide) f t 5 (by decide)) (cwV 0 hts gX4_isWord_J0_length_8abf5 rfl rfl rfl (by decide +kernel) ⟨Nat.le_trans (Nat.le_of_ble_eq_true rfl) hR.1, Nat.le_trans (Nat.le_of_ble_eq_true rfl) hR.2⟩) (vk_recv hX0.2.1 (i := 0) (by decide) hS) rfl hl.1 rfl (Nat.le_of_ble_eq_true rfl) ⟨Nat.zero_le _, Nat.zero_le _⟩ dX4_isWord_10 (fun H locs hP hS => ?_)
  refine lv_icmp_eq (tgt := 18) hx hb dX4_isWord_13 (by decide) (fun c13 => ?_) (fun c13 => ?_)
  · have hf := itT hf c13
    refine lv_iconst (v := 0) hx hb dX4_isWord_18 (by decide) ?_
    refine lv_istore_n (lv' := [(2, .int 0), (0, .ref (ad 12)), (1, .ref (sk 0))]) hx hb dX4_isWord_19 rfl hl (by decide) rfl (fun ls hl => ?_)
    obtain ⟨g5, hlp6, hf⟩ := bi_out hf
    refine lp_X4_isWord_12_0_20_w C0 hj hR N f t g5 ?_ ?_ N 0 hlp6 H locs ls hP hS (lv_sub hl [1, 2, 0] rfl)
    · intro hg H locs ls hP hS hl
      have hf := itT hf hg
      refine lv_iconst (v := 0) hx hb dX4_isWord_49 (by decide) ?_
      obtain ⟨hz, hf⟩ := rz_out hf
      obtain rfl := Option.some.inj hf
      exact kr H locs ls 50 dX4_isWord_50 hz hP hS
    · intro hg H locs ls hP hS hl
      have hf := itF hf (by rw [hg]; decide)
      have hf := itT hf hg
      refine lv_iconst (v := 1) hx hb dX4_isWord_57 (by decide) ?_
      obtain ⟨hz, hf⟩ := rz_out hf
      obtain rfl := Option.some.inj hf
      exact kr H locs ls 58 dX4_isWord_58 hz hP hS
  · have hf := itF hf c13
    refine lv_iconst (v := 0) hx hb dX4_isWord_16 (by decide) ?_
    obtain ⟨hz, hf⟩ := rz_out hf
    obtain rfl := Option.some.inj hf
    exact kr H locs ls 17 dX4_isWord_17 hz hP hS
set_option maxHeartbeats 4000000 in
set_option maxRecDepth 100000 in
theorem c_X4_isWord_12_0 (hj : jP ad) (l : Launch) (N : Nat)  (f : mM) (t : Int64) (r : Int32) (hf : q_X4_isWord_12_0 N f = some r) : Met l yX4_isWord wsX4_isWord ({ frames := 4, cells := 0, slots := 0, locals := 85 }) (va_Pc ([.ref (ad 12), .ref (sk 0)]) (pre D cy (wP ad cy) (xP ad sk sv) f t)) (va_Qi (fun (r2 : Int32) (u : mM × Int64) => r2 = r ∧ u = (f, t)) (atW D (wP ad cy)) (aP ad)) 0 0 (aP ad) := by
  refine Met.ofW (cc := cX4_isWord) (maxL := 3) (ret := (some .boolean)) (by decide) rfl ?_
  intro p e s m args below meth c s₁ B hml hv
  obtain ⟨rfl, hP, hK, hX0⟩ := hv
  have hl := lv_entry ([.ref (ad 12), .ref (sk 0)]) (n := 3) (Nat.le_of_ble_eq_true rfl)
  rw [lg_entry_eq]
  generalize (lg_sl ([.ref (ad 12), .ref (sk 0)]) ++ List.replicate (3 - (lg_sl ([.ref (ad 12), .ref (sk 0)])).length) Slot.unset).toArray = ls at hl ⊢
  have hlocks := B.notSynchronized
  exact b_X4_isWord_12_0 ⟨B.exec, B.bytes, B.returns, hml, findClass_of_methodNamed B.named, atoms_spec (ws := wsX4_isWord) B.pre, hlocks, hK, hX0⟩ hj ⟨Nat.le_refl _, Nat.le_refl _⟩ N  f t r hf (fun H locs ls pc hd hz hP hS => W.zret B.exec B.bytes B.returns hz (fun t2 ht hW => ⟨⟨r, (f, t), rfl, ⟨rfl, rfl⟩, by show va_P D vwCl _ t2.heap; rw [ht]; exact hP⟩, hS.F ht⟩) hS.2.2 hd) s.heap [] ls hP va_S.rf hl
def lp_X4_isWord_12_1_20 (N : Nat) (f : mM) : Nat → Int32 → Option (Nat)
  | 0, _ => none
  | n + 1, x2 => if 5 ≤ x2 then some 1 else bi (q_X7_byteAt ((f 12 3) + x2) f) (fun y1 => gi x2 5 (if y1 = (sch 1 x2) then sq (x2 + 1) (fun x2_4 => lp_X4_isWord_12_1_20 N f n x2_4) else some 0))
theorem lp_X4_isWord_12_1_20_s (N : Nat) (f : mM) (n : Nat) (x2 : Int32) : lp_X4_isWord_12_1_20 N f (n + 1) x2 = (if 5 ≤ x2 then some 1 else bi (q_X7_byteAt ((f 12 3) + x2) f) (fun y1 => gi x2 5 (if y1 = (sch 1 x2) then sq (x2 + 1) (fun x2_4 => lp_X4_isWord_12_1_20 N f n x2_4) else some 0))) := rfl
set_option maxHeartbeats 4000000 in
set_option maxRecDepth 100000 in
theorem lp_X4_isWord_12_1_20_w (C0 : cX p s m args meth c cX4_isWord 3 (some .boolean) RX4 wsX4_isWord D cy (xP ad sk sv)) (hj : jP ad) (hR : 4 ≤ R.frames ∧ 85 ≤ R.locals) (N : Nat)  (f : mM) (t : Int64) (g0 : Nat) (kx49 : g0 = 0 → ∀ (H : Heap) (locs : List Loc) (ls : Array Slot), va_P D vwCl (wP ad cy f t) H → va_S (aP ad) s.heap H locs → lv_has ls 3 [] → W p l e R s m args below meth c H locs 0 0 Q (F0 m 49 ls [])) (kx57 : g0 = 1 → ∀ (H : Heap) (locs : List Loc) (ls : Array Slot), va_P D vwCl (wP ad cy f t) H → va_S (aP ad) s.heap H locs → lv_has ls 3 [] → W p l e R s m args below meth c H locs 0 0 Q (F0 m 57 ls [])) : ∀ (n : Nat) (x2 : Int32), lp_X4_isWord_12_1_20 N f n x2 = some g0 → ∀ (H : Heap) (locs : List Loc) (ls : Array Slot), va_P D vwCl (wP ad cy f t) H → va_S (aP ad) s.heap H locs → lv_has ls 3 [(0, .ref (ad 12)), (1, .ref (sk 1)), (2, .int x2)] → W p l e R s m args below meth c H locs 0 0 Q (F0 m 20 ls []) := by
  obtain ⟨hx, hb, hr, hml, hown, hts, hlocks, hK, hX0⟩ := id C0
  have lk35 := hts (.fieldLink RX4 35 "PlankNine$Reader" "text" "LPlankNine$Text;") (List.mem_of_getElem? (i := 3) rfl)
  have hiX4 : ∀ w ∈ u_ws RX4 TX4 7, w ∈ wsX4_isWord := fun w h => List.mem_cons_of_mem _ (List.mem_append_left _ (List.mem_append_right _ h))
  have lk22 := hts (.fieldLink RX4 22 "PlankNine$Reader" "start" "I") (List.mem_of_getElem? (i := 2) rfl)
  intro n
  induction n with
  | zero =>
    intro x2 hf
    exact no_none hf
  | succ n ih =>
    intro x2 hf H locs ls hP hS hl
    have hf := (lp_X4_isWord_12_1_20_s N f n x2).symm.trans hf
    refine lv_iload_n hx hb dX4_isWord_20 rfl (lv_at hl 2 rfl) ?_
    refine lv_aload_n hx hb dX4_isWord_21 rfl (lv_at hl 1 rfl) ?_
    refine cw_vi (As := []) (rest := [.int x2]) ⟨hx, hb, hml, hown, hts⟩ xP_S hK hX0 hS hP (c_J0_length l 1 (by decide) f t 5 (by decide)) (cwV 0 hts gX4_isWord_J0_length_8abf5 rfl rfl rfl (by decide +kernel) ⟨Nat.le_trans (Nat.le_of_ble_eq_true rfl) hR.1, Nat.le_trans (Nat.le_of_ble_eq_true rfl) hR.2⟩) (vk_recv hX0.2.1 (i := 1) (by decide) hS) rfl hl.1 rfl (Nat.le_of_ble_eq_true rfl) ⟨Nat.zero_le _, Nat.zero_le _⟩ dX4_isWord_22 (fun H locs hP hS => ?_)
    refine lv_icmp_ge (tgt := 57) hx hb dX4_isWord_25 (by decide) (fun c25 => ?_) (fun c25 => ?_)
    · have hf := itT hf c25
      obtain rfl := Option.some.inj hf
      exact kx57 rfl H locs ls hP hS (lv_sub hl [] rfl)
    · have hf := itF hf c25
      refine lv_aload_n hx hb dX4_isWord_28 rfl (lv_at hl 0 rfl) ?_
      refine va_get (D := D) (ci := 4) (v := .ref (ad 1)) (C := RX4) (T := TX4) (N := 7) hx hb hts hiX4 hown hK hP 12 rfl rfl 0 (by decide) lk35 (fun _ h9 => h9) rfl dX4_isWord_29 ?_
      refine lv_aload_n hx hb dX4_isWord_32 rfl (lv_at hl 0 rfl) ?_
      refine va_get (D := D) (ci := 4) (v := .int (f 12 3)) (C := RX4) (T := TX4) (N := 7) hx hb hts hiX4 hown hK hP 12 rfl rfl 3 (by decide) lk22 (fun _ h9 => h9) rfl dX4_isWord_33 ?_
      refine lv_iload_n hx hb dX4_isWord_36 rfl (lv_at hl 2 rfl) ?_
      refine lv_iadd hx hb dX4_isWord_37 ?_
      obtain ⟨y1, hq2, hf⟩ := bi_out hf
      refine cw_vi (As := [.int ((f 12 3) + x2)]) (rest := []) ⟨hx, hb, hml, hown, hts⟩ xP_S hK hX0 hS hP (c_X7_byteAt hj l ((f 12 3) + x2) f t y1 hq2) (cwV 1 hts gX4_isWord_X7_byteAt rfl rfl rfl (by decide +kernel) ⟨Nat.le_trans (Nat.le_of_ble_eq_true rfl) hR.1, Nat.le_trans (Nat.le_of_ble_eq_true rfl) hR.2⟩) (va_recv hK hP (ci := 7) (q0 := 1) rfl rfl) rfl hl.1 rfl (Nat.le_of_ble_eq_true rfl) ⟨Nat.zero_le _, Nat.zero_le _⟩ dX4_isWord_38 (fun H locs hP hS => ?_)
      refine lv_aload_n hx hb dX4_isWord_41 rfl (lv_at hl 1 rfl) ?_
      refine lv_iload_n hx hb dX4_isWord_42 rfl (lv_at hl 2 rfl) ?_
      obtain ⟨hin3, hf⟩ := gi_out hf
      refine cw_vi (As := [.int x2]) (rest := [.int y1]) ⟨hx, hb, hml, hown, hts⟩ xP_S hK hX0 hS hP (c_J0_charAt l 1 (by decide) x2 hin3 f t) (cwV 1 hts gX4_isWord_J0_charAt_5068e rfl rfl rfl (by decide +kernel) ⟨Nat.le_trans (Nat.le_of_ble_eq_true rfl) hR.1, Nat.le_trans (Nat.le_of_ble_eq_true rfl) hR.2⟩) (vk_recv hX0.2.1 (i := 1) (by decide) hS) rfl hl.1 rfl (Nat.le_of_ble_eq_true rfl) ⟨Nat.zero_le _, Nat.zero_le _⟩ dX4_isWord_43 (fun H locs hP hS => ?_)
      refine lv_icmp_eq (tgt := 51) hx hb dX4_isWord_46 (by decide) (fun c46 => ?_) (fun c46 => ?_)
      · have hf := itT hf c46
        obtain ⟨x2_4, ex2_4, hf⟩ := sq_out hf
        refine lv_iinc (v := x2_4) (lv' := [(2, .int x2_4), (0, .ref (ad 12)), (1, .ref (sk 1))]) hx hb dX4_isWord_51 hl (k := 2) rfl (by rw [ex2_4]; rfl) (by decide) rfl (fun ls hl => ?_)
        refine lv_goto (tgt := 20) hx hb dX4_isWord_54 (by decide) ?_
        exact ih x2_4 hf H locs ls hP hS (lv_sub hl [1, 2, 0] rfl)
      · have hf := itF hf c46
        obtain rfl := Option.some.inj hf
        exact kx49 rfl H locs ls hP hS (lv_sub hl [] rfl)
def q_X4_isWord_12_1 (N : Nat) (f : mM) : Option (Int32) := if ((f 12 4) - (f 12 3)) = 5 then bi (lp_X4_isWord_12_1_20 N f N 0) (fun g5 => if g5 = 0 then rz 0 (some 0) else if g5 = 1 then rz 1 (some 1) else none) else rz 0 (some 0)
set_option maxHeartbeats 4000000 in
set_option maxRecDepth 100000 in
theorem b_X4_isWord_12_1 (C0 : cX p s m args meth c cX4_isWord 3 (some .boolean) RX4 wsX4_isWord D cy (xP ad sk sv)) (hj : jP ad) (hR : 4 ≤ R.frames ∧ 85 ≤ R.locals) (N : Nat)  (f : mM) (t : Int64) (r : Int32) (hf : q_X4_isWord_12_1 N f = some r) (kr : ∀ (H : Heap) (locs : List Loc) (ls : Array Slot) (pc : Nat), decode cX4_isWord pc = .ok (.ireturn, 1) → narrow .boolean (.int r) = .int r → va_P D vwCl (wP ad cy f t) H → va_S (aP ad) s.heap H locs → W p l e R s m args below meth c H locs 0 0 Q (F0 m pc ls [.int r])) (H : Heap) (locs : List Loc) (ls : Array Slot) (hP : va_P D vwCl (wP ad cy f t) H) (hS : va_S (aP ad) s.heap H locs) (hl : lv_has ls 3 [(0, .ref (ad 12)), (1, .ref (sk 1))]) : W p l e R s m args below meth c H locs 0 0 Q (F0 m 0 ls []) := by
  obtain ⟨hx, hb, hr, hml, hown, hts, hlocks, hK, hX0⟩ := id C0
  have lk25 := hts (.fieldLink RX4 25 "PlankNine$Reader" "behind" "I") (List.mem_of_getElem? (i := 1) rfl)
  have hiX4 : ∀ w ∈ u_ws RX4 TX4 7, w ∈ wsX4_isWord := fun w h => List.mem_cons_of_mem _ (List.mem_append_left _ (List.mem_append_right _ h))
  have lk22 := hts (.fieldLink RX4 22 "PlankNine$Reader" "start" "I") (List.mem_of_getElem? (i := 2) rfl)
  unfold q_X4_isWord_12_1 at hf
  refine lv_aload_n hx hb dX4_isWord_0 rfl (lv_at hl 0 rfl) ?_
  refine va_get (D := D) (ci := 4) (v := .int (f 12 4)) (C := RX4) (T := TX4) (N := 7) hx hb hts hiX4 hown hK hP 12 rfl rfl 4 (by decide) lk25 (fun _ h9 => h9) rfl dX4_isWord_1 ?_
  refine lv_aload_n hx hb dX4_isWord_4 rfl (lv_at hl 0 rfl) ?_
  refine va_get (D := D) (ci := 4) (v := .int (f 12 3)) (C := RX4) (T := TX4) (N := 7) hx hb hts hiX4 hown hK hP 12 rfl rfl 3 (by decide) lk22 (fun _ h9 => h9) rfl dX4_isWord_5 ?_
  refine lv_isub hx hb dX4_isWord_8 ?_
  refine lv_aload_n hx hb dX4_isWord_9 rfl (lv_at hl 1 rfl) ?_
  refine cw_vi (As := []) (rest := [.int ((f 12 4) - (f 12 3))]) ⟨hx, hb, hml, hown, hts⟩ xP_S hK hX0 hS hP (c_J0_length l 1 (by decide) f t 5 (by decide)) (cwV 0 hts gX4_isWord_J0_length_8abf5 rfl rfl rfl (by decide +kernel) ⟨Nat.le_trans (Nat.le_of_ble_eq_true rfl) hR.1, Nat.le_trans (Nat.le_of_ble_eq_true rfl) hR.2⟩) (vk_recv hX0.2.1 (i := 1) (by decide) hS) rfl hl.1 rfl (Nat.le_of_ble_eq_true rfl) ⟨Nat.zero_le _, Nat.zero_le _⟩ dX4_isWord_10 (fun H locs hP hS => ?_)
  refine lv_icmp_eq (tgt := 18) hx hb dX4_isWord_13 (by decide) (fun c13 => ?_) (fun c13 => ?_)
  · have hf := itT hf c13
    refine lv_iconst (v := 0) hx hb dX4_isWord_18 (by decide) ?_
    refine lv_istore_n (lv' := [(2, .int 0), (0, .ref (ad 12)), (1, .ref (sk 1))]) hx hb dX4_isWord_19 rfl hl (by decide) rfl (fun ls hl => ?_)
    obtain ⟨g5, hlp6, hf⟩ := bi_out hf
    refine lp_X4_isWord_12_1_20_w C0 hj hR N f t g5 ?_ ?_ N 0 hlp6 H locs ls hP hS (lv_sub hl [1, 2, 0] rfl)
    · intro hg H locs ls hP hS hl
      have hf := itT hf hg
      refine lv_iconst (v := 0) hx hb dX4_isWord_49 (by decide) ?_
      obtain ⟨hz, hf⟩ := rz_out hf
      obtain rfl := Option.some.inj hf
      exact kr H locs ls 50 dX4_isWord_50 hz hP hS
    · intro hg H locs ls hP hS hl
      have hf := itF hf (by rw [hg]; decide)
      have hf := itT hf hg
      refine lv_iconst (v := 1) hx hb dX4_isWord_57 (by decide) ?_
      obtain ⟨hz, hf⟩ := rz_out hf
      obtain rfl := Option.some.inj hf
      exact kr H locs ls 58 dX4_isWord_58 hz hP hS
  · have hf := itF hf c13
    refine lv_iconst (v := 0) hx hb dX4_isWord_16 (by decide) ?_
    obtain ⟨hz, hf⟩ := rz_out hf
    obtain rfl := Option.some.inj hf
    exact kr H locs ls 17 dX4_isWord_17 hz hP hS
set_option maxHeartbeats 4000000 in
set_option maxRecDepth 100000 in
theorem c_X4_isWord_12_1 (hj : jP ad) (l : Launch) (N : Nat)  (f : mM) (t : Int64) (r : Int32) (hf : q_X4_isWord_12_1 N f = some r) : Met l yX4_isWord wsX4_isWord ({ frames := 4, cells := 0, slots := 0, locals := 85 }) (va_Pc ([.ref (ad 12), .ref (sk 1)]) (pre D cy (wP ad cy) (xP ad sk sv) f t)) (va_Qi (fun (r2 : Int32) (u : mM × Int64) => r2 = r ∧ u = (f, t)) (atW D (wP ad cy)) (aP ad)) 0 0 (aP ad) := by
  refine Met.ofW (cc := cX4_isWord) (maxL := 3) (ret := (some .boolean)) (by decide) rfl ?_
  intro p e s m args below meth c s₁ B hml hv
  obtain ⟨rfl, hP, hK, hX0⟩ := hv
  have hl := lv_entry ([.ref (ad 12), .ref (sk 1)]) (n := 3) (Nat.le_of_ble_eq_true rfl)
  rw [lg_entry_eq]
  generalize (lg_sl ([.ref (ad 12), .ref (sk 1)]) ++ List.replicate (3 - (lg_sl ([.ref (ad 12), .ref (sk 1)])).length) Slot.unset).toArray = ls at hl ⊢
  have hlocks := B.notSynchronized
  exact b_X4_isWord_12_1 ⟨B.exec, B.bytes, B.returns, hml, findClass_of_methodNamed B.named, atoms_spec (ws := wsX4_isWord) B.pre, hlocks, hK, hX0⟩ hj ⟨Nat.le_refl _, Nat.le_refl _⟩ N  f t r hf (fun H locs ls pc hd hz hP hS => W.zret B.exec B.bytes B.returns hz (fun t2 ht hW => ⟨⟨r, (f, t), rfl, ⟨rfl, rfl⟩, by show va_P D vwCl _ t2.heap; rw [ht]; exact hP⟩, hS.F ht⟩) hS.2.2 hd) s.heap [] ls hP va_S.rf hl
def lp_X4_isWord_12_2_20 (N : Nat) (f : mM) : Nat → Int32 → Option (Nat)
  | 0, _ => none
  | n + 1, x2 => if 6 ≤ x2 then some 1 else bi (q_X7_byteAt ((f 12 3) + x2) f) (fun y1 => gi x2 6 (if y1 = (sch 2 x2) then sq (x2 + 1) (fun x2_4 => lp_X4_isWord_12_2_20 N f n x2_4) else some 0))
theorem lp_X4_isWord_12_2_20_s (N : Nat) (f : mM) (n : Nat) (x2 : Int32) : lp_X4_isWord_12_2_20 N f (n + 1) x2 = (if 6 ≤ x2 then some 1 else bi (q_X7_byteAt ((f 12 3) + x2) f) (fun y1 => gi x2 6 (if y1 = (sch 2 x2) then sq (x2 + 1) (fun x2_4 => lp_X4_isWord_12_2_20 N f n x2_4) else some 0))) := rfl
set_option maxHeartbeats 4000000 in
set_option maxRecDepth 100000 in
theorem lp_X4_isWord_12_2_20_w (C0 : cX p s m args meth c cX4_isWord 3 (some .boolean) RX4 wsX4_isWord D cy (xP ad sk sv)) (hj : jP ad) (hR : 4 ≤ R.frames ∧ 85 ≤ R.locals) (N : Nat)  (f : mM) (t : Int64) (g0 : Nat) (kx49 : g0 = 0 → ∀ (H : Heap) (locs : List Loc) (ls : Array Slot), va_P D vwCl (wP ad cy f t) H → va_S (aP ad) s.heap H locs → lv_has ls 3 [] → W p l e R s m args below meth c H locs 0 0 Q (F0 m 49 ls [])) (kx57 : g0 = 1 → ∀ (H : Heap) (locs : List Loc) (ls : Array Slot), va_P D vwCl (wP ad cy f t) H → va_S (aP ad) s.heap H locs → lv_has ls 3 [] → W p l e R s m args below meth c H locs 0 0 Q (F0 m 57 ls [])) : ∀ (n : Nat) (x2 : Int32), lp_X4_isWord_12_2_20 N f n x2 = some g0 → ∀ (H : Heap) (locs : List Loc) (ls : Array Slot), va_P D vwCl (wP ad cy f t) H → va_S (aP ad) s.heap H locs → lv_has ls 3 [(0, .ref (ad 12)), (1, .ref (sk 2)), (2, .int x2)] → W p l e R s m args below meth c H locs 0 0 Q (F0 m 20 ls []) := by
  obtain ⟨hx, hb, hr, hml, hown, hts, hlocks, hK, hX0⟩ := id C0
  have lk35 := hts (.fieldLink RX4 35 "PlankNine$Reader" "text" "LPlankNine$Text;") (List.mem_of_getElem? (i := 3) rfl)
  have hiX4 : ∀ w ∈ u_ws RX4 TX4 7, w ∈ wsX4_isWord := fun w h => List.mem_cons_of_mem _ (List.mem_append_left _ (List.mem_append_right _ h))
  have lk22 := hts (.fieldLink RX4 22 "PlankNine$Reader" "start" "I") (List.mem_of_getElem? (i := 2) rfl)
  intro n
  induction n with
  | zero =>
    intro x2 hf
    exact no_none hf
  | succ n ih =>
    intro x2 hf H locs ls hP hS hl
    have hf := (lp_X4_isWord_12_2_20_s N f n x2).symm.trans hf
    refine lv_iload_n hx hb dX4_isWord_20 rfl (lv_at hl 2 rfl) ?_
    refine lv_aload_n hx hb dX4_isWord_21 rfl (lv_at hl 1 rfl) ?_
    refine cw_vi (As := []) (rest := [.int x2]) ⟨hx, hb, hml, hown, hts⟩ xP_S hK hX0 hS hP (c_J0_length l 2 (by decide) f t 6 (by decide)) (cwV 0 hts gX4_isWord_J0_length_8abf5 rfl rfl rfl (by decide +kernel) ⟨Nat.le_trans (Nat.le_of_ble_eq_true rfl) hR.1, Nat.le_trans (Nat.le_of_ble_eq_true rfl) hR.2⟩) (vk_recv hX0.2.1 (i := 2) (by decide) hS) rfl hl.1 rfl (Nat.le_of_ble_eq_true rfl) ⟨Nat.zero_le _, Nat.zero_le _⟩ dX4_isWord_22 (fun H locs hP hS => ?_)
    refine lv_icmp_ge (tgt := 57) hx hb dX4_isWord_25 (by decide) (fun c25 => ?_) (fun c25 => ?_)
    · have hf := itT hf c25
      obtain rfl := Option.some.inj hf
      exact kx57 rfl H locs ls hP hS (lv_sub hl [] rfl)
    · have hf := itF hf c25
      refine lv_aload_n hx hb dX4_isWord_28 rfl (lv_at hl 0 rfl) ?_
      refine va_get (D := D) (ci := 4) (v := .ref (ad 1)) (C := RX4) (T := TX4) (N := 7) hx hb hts hiX4 hown hK hP 12 rfl rfl 0 (by decide) lk35 (fun _ h9 => h9) rfl dX4_isWord_29 ?_
      refine lv_aload_n hx hb dX4_isWord_32 rfl (lv_at hl 0 rfl) ?_
      refine va_get (D := D) (ci := 4) (v := .int (f 12 3)) (C := RX4) (T := TX4) (N := 7) hx hb hts hiX4 hown hK hP 12 rfl rfl 3 (by decide) lk22 (fun _ h9 => h9) rfl dX4_isWord_33 ?_
      refine lv_iload_n hx hb dX4_isWord_36 rfl (lv_at hl 2 rfl) ?_
      refine lv_iadd hx hb dX4_isWord_37 ?_
      obtain ⟨y1, hq2, hf⟩ := bi_out hf
      refine cw_vi (As := [.int ((f 12 3) + x2)]) (rest := []) ⟨hx, hb, hml, hown, hts⟩ xP_S hK hX0 hS hP (c_X7_byteAt hj l ((f 12 3) + x2) f t y1 hq2) (cwV 1 hts gX4_isWord_X7_byteAt rfl rfl rfl (by decide +kernel) ⟨Nat.le_trans (Nat.le_of_ble_eq_true rfl) hR.1, Nat.le_trans (Nat.le_of_ble_eq_true rfl) hR.2⟩) (va_recv hK hP (ci := 7) (q0 := 1) rfl rfl) rfl hl.1 rfl (Nat.le_of_ble_eq_true rfl) ⟨Nat.zero_le _, Nat.zero_le _⟩ dX4_isWord_38 (fun H locs hP hS => ?_)
      refine lv_aload_n hx hb dX4_isWord_41 rfl (lv_at hl 1 rfl) ?_
      refine lv_iload_n hx hb dX4_isWord_42 rfl (lv_at hl 2 rfl) ?_
      obtain ⟨hin3, hf⟩ := gi_out hf
      refine cw_vi (As := [.int x2]) (rest := [.int y1]) ⟨hx, hb, hml, hown, hts⟩ xP_S hK hX0 hS hP (c_J0_charAt l 2 (by decide) x2 hin3 f t) (cwV 1 hts gX4_isWord_J0_charAt_5068e rfl rfl rfl (by decide +kernel) ⟨Nat.le_trans (Nat.le_of_ble_eq_true rfl) hR.1, Nat.le_trans (Nat.le_of_ble_eq_true rfl) hR.2⟩) (vk_recv hX0.2.1 (i := 2) (by decide) hS) rfl hl.1 rfl (Nat.le_of_ble_eq_true rfl) ⟨Nat.zero_le _, Nat.zero_le _⟩ dX4_isWord_43 (fun H locs hP hS => ?_)
      refine lv_icmp_eq (tgt := 51) hx hb dX4_isWord_46 (by decide) (fun c46 => ?_) (fun c46 => ?_)
      · have hf := itT hf c46
        obtain ⟨x2_4, ex2_4, hf⟩ := sq_out hf
        refine lv_iinc (v := x2_4) (lv' := [(2, .int x2_4), (0, .ref (ad 12)), (1, .ref (sk 2))]) hx hb dX4_isWord_51 hl (k := 2) rfl (by rw [ex2_4]; rfl) (by decide) rfl (fun ls hl => ?_)
        refine lv_goto (tgt := 20) hx hb dX4_isWord_54 (by decide) ?_
        exact ih x2_4 hf H locs ls hP hS (lv_sub hl [1, 2, 0] rfl)
      · have hf := itF hf c46
        obtain rfl := Option.some.inj hf
        exact kx49 rfl H locs ls hP hS (lv_sub hl [] rfl)
def q_X4_isWord_12_2 (N : Nat) (f : mM) : Option (Int32) := if ((f 12 4) - (f 12 3)) = 6 then bi (lp_X4_isWord_12_2_20 N f N 0) (fun g5 => if g5 = 0 then rz 0 (some 0) else if g5 = 1 then rz 1 (some 1) else none) else rz 0 (some 0)
set_option maxHeartbeats 4000000 in
set_option maxRecDepth 100000 in
theorem b_X4_isWord_12_2 (C0 : cX p s m args meth c cX4_isWord 3 (some .boolean) RX4 wsX4_isWord D cy (xP ad sk sv)) (hj : jP ad) (hR : 4 ≤ R.frames ∧ 85 ≤ R.locals) (N : Nat)  (f : mM) (t : Int64) (r : Int32) (hf : q_X4_isWord_12_2 N f = some r) (kr : ∀ (H : Heap) (locs : List Loc) (ls : Array Slot) (pc : Nat), decode cX4_isWord pc = .ok (.ireturn, 1) → narrow .boolean (.int r) = .int r → va_P D vwCl (wP ad cy f t) H → va_S (aP ad) s.heap H locs → W p l e R s m args below meth c H locs 0 0 Q (F0 m pc ls [.int r])) (H : Heap) (locs : List Loc) (ls : Array Slot) (hP : va_P D vwCl (wP ad cy f t) H) (hS : va_S (aP ad) s.heap H locs) (hl : lv_has ls 3 [(0, .ref (ad 12)), (1, .ref (sk 2))]) : W p l e R s m args below meth c H locs 0 0 Q (F0 m 0 ls []) := by
  obtain ⟨hx, hb, hr, hml, hown, hts, hlocks, hK, hX0⟩ := id C0
  have lk25 := hts (.fieldLink RX4 25 "PlankNine$Reader" "behind" "I") (List.mem_of_getElem? (i := 1) rfl)
  have hiX4 : ∀ w ∈ u_ws RX4 TX4 7, w ∈ wsX4_isWord := fun w h => List.mem_cons_of_mem _ (List.mem_append_left _ (List.mem_append_right _ h))
  have lk22 := hts (.fieldLink RX4 22 "PlankNine$Reader" "start" "I") (List.mem_of_getElem? (i := 2) rfl)
  unfold q_X4_isWord_12_2 at hf
  refine lv_aload_n hx hb dX4_isWord_0 rfl (lv_at hl 0 rfl) ?_
  refine va_get (D := D) (ci := 4) (v := .int (f 12 4)) (C := RX4) (T := TX4) (N := 7) hx hb hts hiX4 hown hK hP 12 rfl rfl 4 (by decide) lk25 (fun _ h9 => h9) rfl dX4_isWord_1 ?_
  refine lv_aload_n hx hb dX4_isWord_4 rfl (lv_at hl 0 rfl) ?_
  refine va_get (D := D) (ci := 4) (v := .int (f 12 3)) (C := RX4) (T := TX4) (N := 7) hx hb hts hiX4 hown hK hP 12 rfl rfl 3 (by decide) lk22 (fun _ h9 => h9) rfl dX4_isWord_5 ?_
  refine lv_isub hx hb dX4_isWord_8 ?_
  refine lv_aload_n hx hb dX4_isWord_9 rfl (lv_at hl 1 rfl) ?_
  refine cw_vi (As := []) (rest := [.int ((f 12 4) - (f 12 3))]) ⟨hx, hb, hml, hown, hts⟩ xP_S hK hX0 hS hP (c_J0_length l 2 (by decide) f t 6 (by decide)) (cwV 0 hts gX4_isWord_J0_length_8abf5 rfl rfl rfl (by decide +kernel) ⟨Nat.le_trans (Nat.le_of_ble_eq_true rfl) hR.1, Nat.le_trans (Nat.le_of_ble_eq_true rfl) hR.2⟩) (vk_recv hX0.2.1 (i := 2) (by decide) hS) rfl hl.1 rfl (Nat.le_of_ble_eq_true rfl) ⟨Nat.zero_le _, Nat.zero_le _⟩ dX4_isWord_10 (fun H locs hP hS => ?_)
  refine lv_icmp_eq (tgt := 18) hx hb dX4_isWord_13 (by decide) (fun c13 => ?_) (fun c13 => ?_)
  · have hf := itT hf c13
    refine lv_iconst (v := 0) hx hb dX4_isWord_18 (by decide) ?_
    refine lv_istore_n (lv' := [(2, .int 0), (0, .ref (ad 12)), (1, .ref (sk 2))]) hx hb dX4_isWord_19 rfl hl (by decide) rfl (fun ls hl => ?_)
    obtain ⟨g5, hlp6, hf⟩ := bi_out hf
    refine lp_X4_isWord_12_2_20_w C0 hj hR N f t g5 ?_ ?_ N 0 hlp6 H locs ls hP hS (lv_sub hl [1, 2, 0] rfl)
    · intro hg H locs ls hP hS hl
      have hf := itT hf hg
      refine lv_iconst (v := 0) hx hb dX4_isWord_49 (by decide) ?_
      obtain ⟨hz, hf⟩ := rz_out hf
      obtain rfl := Option.some.inj hf
      exact kr H locs ls 50 dX4_isWord_50 hz hP hS
    · intro hg H locs ls hP hS hl
      have hf := itF hf (by rw [hg]; decide)
      have hf := itT hf hg
      refine lv_iconst (v := 1) hx hb dX4_isWord_57 (by decide) ?_
      obtain ⟨hz, hf⟩ := rz_out hf
      obtain rfl := Option.some.inj hf
      exact kr H locs ls 58 dX4_isWord_58 hz hP hS
  · have hf := itF hf c13
    refine lv_iconst (v := 0) hx hb dX4_isWord_16 (by decide) ?_
    obtain ⟨hz, hf⟩ := rz_out hf
    obtain rfl := Option.some.inj hf
    exact kr H locs ls 17 dX4_isWord_17 hz hP hS
set_option maxHeartbeats 4000000 in
set_option maxRecDepth 100000 in
theorem c_X4_isWord_12_2 (hj : jP ad) (l : Launch) (N : Nat)  (f : mM) (t : Int64) (r : Int32) (hf : q_X4_isWord_12_2 N f = some r) : Met l yX4_isWord wsX4_isWord ({ frames := 4, cells := 0, slots := 0, locals := 85 }) (va_Pc ([.ref (ad 12), .ref (sk 2)]) (pre D cy (wP ad cy) (xP ad sk sv) f t)) (va_Qi (fun (r2 : Int32) (u : mM × Int64) => r2 = r ∧ u = (f, t)) (atW D (wP ad cy)) (aP ad)) 0 0 (aP ad) := by
  refine Met.ofW (cc := cX4_isWord) (maxL := 3) (ret := (some .boolean)) (by decide) rfl ?_
  intro p e s m args below meth c s₁ B hml hv
  obtain ⟨rfl, hP, hK, hX0⟩ := hv
  have hl := lv_entry ([.ref (ad 12), .ref (sk 2)]) (n := 3) (Nat.le_of_ble_eq_true rfl)
  rw [lg_entry_eq]
  generalize (lg_sl ([.ref (ad 12), .ref (sk 2)]) ++ List.replicate (3 - (lg_sl ([.ref (ad 12), .ref (sk 2)])).length) Slot.unset).toArray = ls at hl ⊢
  have hlocks := B.notSynchronized
  exact b_X4_isWord_12_2 ⟨B.exec, B.bytes, B.returns, hml, findClass_of_methodNamed B.named, atoms_spec (ws := wsX4_isWord) B.pre, hlocks, hK, hX0⟩ hj ⟨Nat.le_refl _, Nat.le_refl _⟩ N  f t r hf (fun H locs ls pc hd hz hP hS => W.zret B.exec B.bytes B.returns hz (fun t2 ht hW => ⟨⟨r, (f, t), rfl, ⟨rfl, rfl⟩, by show va_P D vwCl _ t2.heap; rw [ht]; exact hP⟩, hS.F ht⟩) hS.2.2 hd) s.heap [] ls hP va_S.rf hl
def lp_X4_isWord_12_3_20 (N : Nat) (f : mM) : Nat → Int32 → Option (Nat)
  | 0, _ => none
  | n + 1, x2 => if 6 ≤ x2 then some 1 else bi (q_X7_byteAt ((f 12 3) + x2) f) (fun y1 => gi x2 6 (if y1 = (sch 3 x2) then sq (x2 + 1) (fun x2_4 => lp_X4_isWord_12_3_20 N f n x2_4) else some 0))
theorem lp_X4_isWord_12_3_20_s (N : Nat) (f : mM) (n : Nat) (x2 : Int32) : lp_X4_isWord_12_3_20 N f (n + 1) x2 = (if 6 ≤ x2 then some 1 else bi (q_X7_byteAt ((f 12 3) + x2) f) (fun y1 => gi x2 6 (if y1 = (sch 3 x2) then sq (x2 + 1) (fun x2_4 => lp_X4_isWord_12_3_20 N f n x2_4) else some 0))) := rfl
set_option maxHeartbeats 4000000 in
set_option maxRecDepth 100000 in
theorem lp_X4_isWord_12_3_20_w (C0 : cX p s m args meth c cX4_isWord 3 (some .boolean) RX4 wsX4_isWord D cy (xP ad sk sv)) (hj : jP ad) (hR : 4 ≤ R.frames ∧ 85 ≤ R.locals) (N : Nat)  (f : mM) (t : Int64) (g0 : Nat) (kx49 : g0 = 0 → ∀ (H : Heap) (locs : List Loc) (ls : Array Slot), va_P D vwCl (wP ad cy f t) H → va_S (aP ad) s.heap H locs → lv_has ls 3 [] → W p l e R s m args below meth c H locs 0 0 Q (F0 m 49 ls [])) (kx57 : g0 = 1 → ∀ (H : Heap) (locs : List Loc) (ls : Array Slot), va_P D vwCl (wP ad cy f t) H → va_S (aP ad) s.heap H locs → lv_has ls 3 [] → W p l e R s m args below meth c H locs 0 0 Q (F0 m 57 ls [])) : ∀ (n : Nat) (x2 : Int32), lp_X4_isWord_12_3_20 N f n x2 = some g0 → ∀ (H : Heap) (locs : List Loc) (ls : Array Slot), va_P D vwCl (wP ad cy f t) H → va_S (aP ad) s.heap H locs → lv_has ls 3 [(0, .ref (ad 12)), (1, .ref (sk 3)), (2, .int x2)] → W p l e R s m args below meth c H locs 0 0 Q (F0 m 20 ls []) := by
  obtain ⟨hx, hb, hr, hml, hown, hts, hlocks, hK, hX0⟩ := id C0
  have lk35 := hts (.fieldLink RX4 35 "PlankNine$Reader" "text" "LPlankNine$Text;") (List.mem_of_getElem? (i := 3) rfl)
  have hiX4 : ∀ w ∈ u_ws RX4 TX4 7, w ∈ wsX4_isWord := fun w h => List.mem_cons_of_mem _ (List.mem_append_left _ (List.mem_append_right _ h))
  have lk22 := hts (.fieldLink RX4 22 "PlankNine$Reader" "start" "I") (List.mem_of_getElem? (i := 2) rfl)
  intro n
  induction n with
  | zero =>
    intro x2 hf
    exact no_none hf
  | succ n ih =>
    intro x2 hf H locs ls hP hS hl
    have hf := (lp_X4_isWord_12_3_20_s N f n x2).symm.trans hf
    refine lv_iload_n hx hb dX4_isWord_20 rfl (lv_at hl 2 rfl) ?_
    refine lv_aload_n hx hb dX4_isWord_21 rfl (lv_at hl 1 rfl) ?_
    refine cw_vi (As := []) (rest := [.int x2]) ⟨hx, hb, hml, hown, hts⟩ xP_S hK hX0 hS hP (c_J0_length l 3 (by decide) f t 6 (by decide)) (cwV 0 hts gX4_isWord_J0_length_8abf5 rfl rfl rfl (by decide +kernel) ⟨Nat.le_trans (Nat.le_of_ble_eq_true rfl) hR.1, Nat.le_trans (Nat.le_of_ble_eq_true rfl) hR.2⟩) (vk_recv hX0.2.1 (i := 3) (by decide) hS) rfl hl.1 rfl (Nat.le_of_ble_eq_true rfl) ⟨Nat.zero_le _, Nat.zero_le _⟩ dX4_isWord_22 (fun H locs hP hS => ?_)
    refine lv_icmp_ge (tgt := 57) hx hb dX4_isWord_25 (by decide) (fun c25 => ?_) (fun c25 => ?_)
    · have hf := itT hf c25
      obtain rfl := Option.some.inj hf
      exact kx57 rfl H locs ls hP hS (lv_sub hl [] rfl)
    · have hf := itF hf c25
      refine lv_aload_n hx hb dX4_isWord_28 rfl (lv_at hl 0 rfl) ?_
      refine va_get (D := D) (ci := 4) (v := .ref (ad 1)) (C := RX4) (T := TX4) (N := 7) hx hb hts hiX4 hown hK hP 12 rfl rfl 0 (by decide) lk35 (fun _ h9 => h9) rfl dX4_isWord_29 ?_
      refine lv_aload_n hx hb dX4_isWord_32 rfl (lv_at hl 0 rfl) ?_
      refine va_get (D := D) (ci := 4) (v := .int (f 12 3)) (C := RX4) (T := TX4) (N := 7) hx hb hts hiX4 hown hK hP 12 rfl rfl 3 (by decide) lk22 (fun _ h9 => h9) rfl dX4_isWord_33 ?_
      refine lv_iload_n hx hb dX4_isWord_36 rfl (lv_at hl 2 rfl) ?_
      refine lv_iadd hx hb dX4_isWord_37 ?_
      obtain ⟨y1, hq2, hf⟩ := bi_out hf
      refine cw_vi (As := [.int ((f 12 3) + x2)]) (rest := []) ⟨hx, hb, hml, hown, hts⟩ xP_S hK hX0 hS hP (c_X7_byteAt hj l ((f 12 3) + x2) f t y1 hq2) (cwV 1 hts gX4_isWord_X7_byteAt rfl rfl rfl (by decide +kernel) ⟨Nat.le_trans (Nat.le_of_ble_eq_true rfl) hR.1, Nat.le_trans (Nat.le_of_ble_eq_true rfl) hR.2⟩) (va_recv hK hP (ci := 7) (q0 := 1) rfl rfl) rfl hl.1 rfl (Nat.le_of_ble_eq_true rfl) ⟨Nat.zero_le _, Nat.zero_le _⟩ dX4_isWord_38 (fun H locs hP hS => ?_)
      refine lv_aload_n hx hb dX4_isWord_41 rfl (lv_at hl 1 rfl) ?_
      refine lv_iload_n hx hb dX4_isWord_42 rfl (lv_at hl 2 rfl) ?_
      obtain ⟨hin3, hf⟩ := gi_out hf
      refine cw_vi (As := [.int x2]) (rest := [.int y1]) ⟨hx, hb, hml, hown, hts⟩ xP_S hK hX0 hS hP (c_J0_charAt l 3 (by decide) x2 hin3 f t) (cwV 1 hts gX4_isWord_J0_charAt_5068e rfl rfl rfl (by decide +kernel) ⟨Nat.le_trans (Nat.le_of_ble_eq_true rfl) hR.1, Nat.le_trans (Nat.le_of_ble_eq_true rfl) hR.2⟩) (vk_recv hX0.2.1 (i := 3) (by decide) hS) rfl hl.1 rfl (Nat.le_of_ble_eq_true rfl) ⟨Nat.zero_le _, Nat.zero_le _⟩ dX4_isWord_43 (fun H locs hP hS => ?_)
      refine lv_icmp_eq (tgt := 51) hx hb dX4_isWord_46 (by decide) (fun c46 => ?_) (fun c46 => ?_)
      · have hf := itT hf c46
        obtain ⟨x2_4, ex2_4, hf⟩ := sq_out hf
        refine lv_iinc (v := x2_4) (lv' := [(2, .int x2_4), (0, .ref (ad 12)), (1, .ref (sk 3))]) hx hb dX4_isWord_51 hl (k := 2) rfl (by rw [ex2_4]; rfl) (by decide) rfl (fun ls hl => ?_)
        refine lv_goto (tgt := 20) hx hb dX4_isWord_54 (by decide) ?_
        exact ih x2_4 hf H locs ls hP hS (lv_sub hl [1, 2, 0] rfl)
      · have hf := itF hf c46
        obtain rfl := Option.some.inj hf
        exact kx49 rfl H locs ls hP hS (lv_sub hl [] rfl)
def q_X4_isWord_12_3 (N : Nat) (f : mM) : Option (Int32) := if ((f 12 4) - (f 12 3)) = 6 then bi (lp_X4_isWord_12_3_20 N f N 0) (fun g5 => if g5 = 0 then rz 0 (some 0) else if g5 = 1 then rz 1 (some 1) else none) else rz 0 (some 0)
set_option maxHeartbeats 4000000 in
set_option maxRecDepth 100000 in
theorem b_X4_isWord_12_3 (C0 : cX p s m args meth c cX4_isWord 3 (some .boolean) RX4 wsX4_isWord D cy (xP ad sk sv)) (hj : jP ad) (hR : 4 ≤ R.frames ∧ 85 ≤ R.locals) (N : Nat)  (f : mM) (t : Int64) (r : Int32) (hf : q_X4_isWord_12_3 N f = some r) (kr : ∀ (H : Heap) (locs : List Loc) (ls : Array Slot) (pc : Nat), decode cX4_isWord pc = .ok (.ireturn, 1) → narrow .boolean (.int r) = .int r → va_P D vwCl (wP ad cy f t) H → va_S (aP ad) s.heap H locs → W p l e R s m args below meth c H locs 0 0 Q (F0 m pc ls [.int r])) (H : Heap) (locs : List Loc) (ls : Array Slot) (hP : va_P D vwCl (wP ad cy f t) H) (hS : va_S (aP ad) s.heap H locs) (hl : lv_has ls 3 [(0, .ref (ad 12)), (1, .ref (sk 3))]) : W p l e R s m args below meth c H locs 0 0 Q (F0 m 0 ls []) := by
  obtain ⟨hx, hb, hr, hml, hown, hts, hlocks, hK, hX0⟩ := id C0
  have lk25 := hts (.fieldLink RX4 25 "PlankNine$Reader" "behind" "I") (List.mem_of_getElem? (i := 1) rfl)
  have hiX4 : ∀ w ∈ u_ws RX4 TX4 7, w ∈ wsX4_isWord := fun w h => List.mem_cons_of_mem _ (List.mem_append_left _ (List.mem_append_right _ h))
  have lk22 := hts (.fieldLink RX4 22 "PlankNine$Reader" "start" "I") (List.mem_of_getElem? (i := 2) rfl)
  unfold q_X4_isWord_12_3 at hf
  refine lv_aload_n hx hb dX4_isWord_0 rfl (lv_at hl 0 rfl) ?_
  refine va_get (D := D) (ci := 4) (v := .int (f 12 4)) (C := RX4) (T := TX4) (N := 7) hx hb hts hiX4 hown hK hP 12 rfl rfl 4 (by decide) lk25 (fun _ h9 => h9) rfl dX4_isWord_1 ?_
  refine lv_aload_n hx hb dX4_isWord_4 rfl (lv_at hl 0 rfl) ?_
  refine va_get (D := D) (ci := 4) (v := .int (f 12 3)) (C := RX4) (T := TX4) (N := 7) hx hb hts hiX4 hown hK hP 12 rfl rfl 3 (by decide) lk22 (fun _ h9 => h9) rfl dX4_isWord_5 ?_
  refine lv_isub hx hb dX4_isWord_8 ?_
  refine lv_aload_n hx hb dX4_isWord_9 rfl (lv_at hl 1 rfl) ?_
  refine cw_vi (As := []) (rest := [.int ((f 12 4) - (f 12 3))]) ⟨hx, hb, hml, hown, hts⟩ xP_S hK hX0 hS hP (c_J0_length l 3 (by decide) f t 6 (by decide)) (cwV 0 hts gX4_isWord_J0_length_8abf5 rfl rfl rfl (by decide +kernel) ⟨Nat.le_trans (Nat.le_of_ble_eq_true rfl) hR.1, Nat.le_trans (Nat.le_of_ble_eq_true rfl) hR.2⟩) (vk_recv hX0.2.1 (i := 3) (by decide) hS) rfl hl.1 rfl (Nat.le_of_ble_eq_true rfl) ⟨Nat.zero_le _, Nat.zero_le _⟩ dX4_isWord_10 (fun H locs hP hS => ?_)
  refine lv_icmp_eq (tgt := 18) hx hb dX4_isWord_13 (by decide) (fun c13 => ?_) (fun c13 => ?_)
  · have hf := itT hf c13
    refine lv_iconst (v := 0) hx hb dX4_isWord_18 (by decide) ?_
    refine lv_istore_n (lv' := [(2, .int 0), (0, .ref (ad 12)), (1, .ref (sk 3))]) hx hb dX4_isWord_19 rfl hl (by decide) rfl (fun ls hl => ?_)
    obtain ⟨g5, hlp6, hf⟩ := bi_out hf
    refine lp_X4_isWord_12_3_20_w C0 hj hR N f t g5 ?_ ?_ N 0 hlp6 H locs ls hP hS (lv_sub hl [1, 2, 0] rfl)
    · intro hg H locs ls hP hS hl
      have hf := itT hf hg
      refine lv_iconst (v := 0) hx hb dX4_isWord_49 (by decide) ?_
      obtain ⟨hz, hf⟩ := rz_out hf
      obtain rfl := Option.some.inj hf
      exact kr H locs ls 50 dX4_isWord_50 hz hP hS
    · intro hg H locs ls hP hS hl
      have hf := itF hf (by rw [hg]; decide)
      have hf := itT hf hg
      refine lv_iconst (v := 1) hx hb dX4_isWord_57 (by decide) ?_
      obtain ⟨hz, hf⟩ := rz_out hf
      obtain rfl := Option.some.inj hf
      exact kr H locs ls 58 dX4_isWord_58 hz hP hS
  · have hf := itF hf c13
    refine lv_iconst (v := 0) hx hb dX4_isWord_16 (by decide) ?_
    obtain ⟨hz, hf⟩ := rz_out hf
    obtain rfl := Option.some.inj hf
    exact kr H locs ls 17 dX4_isWord_17 hz hP hS
set_option maxHeartbeats 4000000 in
set_option maxRecDepth 100000 in
theorem c_X4_isWord_12_3 (hj : jP ad) (l : Launch) (N : Nat)  (f : mM) (t : Int64) (r : Int32) (hf : q_X4_isWord_12_3 N f = some r) : Met l yX4_isWord wsX4_isWord ({ frames := 4, cells := 0, slots := 0, locals := 85 }) (va_Pc ([.ref (ad 12), .ref (sk 3)]) (pre D cy (wP ad cy) (xP ad sk sv) f t)) (va_Qi (fun (r2 : Int32) (u : mM × Int64) => r2 = r ∧ u = (f, t)) (atW D (wP ad cy)) (aP ad)) 0 0 (aP ad) := by
  refine Met.ofW (cc := cX4_isWord) (maxL := 3) (ret := (some .boolean)) (by decide) rfl ?_
  intro p e s m args below meth c s₁ B hml hv
  obtain ⟨rfl, hP, hK, hX0⟩ := hv
  have hl := lv_entry ([.ref (ad 12), .ref (sk 3)]) (n := 3) (Nat.le_of_ble_eq_true rfl)
  rw [lg_entry_eq]
  generalize (lg_sl ([.ref (ad 12), .ref (sk 3)]) ++ List.replicate (3 - (lg_sl ([.ref (ad 12), .ref (sk 3)])).length) Slot.unset).toArray = ls at hl ⊢
  have hlocks := B.notSynchronized
  exact b_X4_isWord_12_3 ⟨B.exec, B.bytes, B.returns, hml, findClass_of_methodNamed B.named, atoms_spec (ws := wsX4_isWord) B.pre, hlocks, hK, hX0⟩ hj ⟨Nat.le_refl _, Nat.le_refl _⟩ N  f t r hf (fun H locs ls pc hd hz hP hS => W.zret B.exec B.bytes B.returns hz (fun t2 ht hW => ⟨⟨r, (f, t), rfl, ⟨rfl, rfl⟩, by show va_P D vwCl _ t2.heap; rw [ht]; exact hP⟩, hS.F ht⟩) hS.2.2 hd) s.heap [] ls hP va_S.rf hl
def lp_X4_lettersToken_0 (N : Nat)  : Nat → mM → Option (mM)
  | 0, _ => none
  | n + 1, f => if (f 1 1) ≤ (f 12 4) then some f else bi (q_X7_byteAt (f 12 4) f) (fun y1 => bi (q_X4_isLetter y1) (fun y3 => if y3 = 0 then some f else sq (st2 f 12 4 ((f 12 4) + 1)) (fun f5 => lp_X4_lettersToken_0 N n f5)))
theorem lp_X4_lettersToken_0_s (N : Nat)  (n : Nat) (f : mM) : lp_X4_lettersToken_0 N (n + 1) f = (if (f 1 1) ≤ (f 12 4) then some f else bi (q_X7_byteAt (f 12 4) f) (fun y1 => bi (q_X4_isLetter y1) (fun y3 => if y3 = 0 then some f else sq (st2 f 12 4 ((f 12 4) + 1)) (fun f5 => lp_X4_lettersToken_0 N n f5)))) := rfl
set_option maxHeartbeats 4000000 in
set_option maxRecDepth 100000 in
theorem lp_X4_lettersToken_0_w (C0 : cX p s m args meth c cX4_lettersToken 1 (some .int) RX4 wsX4_lettersToken D cy (xP ad sk sv)) (hj : jP ad) (hR : 5 ≤ R.frames ∧ 107 ≤ R.locals) (N : Nat)  (t : Int64) (fR : mM) (kx44 : ∀ (H : Heap) (locs : List Loc) (ls : Array Slot), va_P D vwCl (wP ad cy fR t) H → va_S (aP ad) s.heap H locs → lv_has ls 1 [(0, .ref (ad 12))] → W p l e R s m args below meth c H locs 0 0 Q (F0 m 44 ls [])) : ∀ (n : Nat) (f : mM), lp_X4_lettersToken_0 N n f = some fR → ∀ (H : Heap) (locs : List Loc) (ls : Array Slot), va_P D vwCl (wP ad cy f t) H → va_S (aP ad) s.heap H locs → lv_has ls 1 [(0, .ref (ad 12))] → W p l e R s m args below meth c H locs 0 0 Q (F0 m 0 ls []) := by
  obtain ⟨hx, hb, hr, hml, hown, hts, hlocks, hK, hX0⟩ := id C0
  have lk25 := hts (.fieldLink RX4 25 "PlankNine$Reader" "behind" "I") (List.mem_of_getElem? (i := 1) rfl)
  have hiX4 : ∀ w ∈ u_ws RX4 TX4 7, w ∈ wsX4_lettersToken := fun w h => List.mem_cons_of_mem _ (List.mem_append_left _ (List.mem_append_right _ h))
  have lk35 := hts (.fieldLink RX4 35 "PlankNine$Reader" "text" "LPlankNine$Text;") (List.mem_of_getElem? (i := 2) rfl)
  have ln91 := nlF_1 (args := args) hX0
  have hiX7 : ∀ w ∈ u_ws RX7 TX7 2, w ∈ wsX4_lettersToken := fun w h => List.mem_cons_of_mem _ (List.mem_append_right _ h)
  intro n
  induction n with
  | zero =>
    intro f hf
    exact no_none hf
  | succ n ih =>
    intro f hf H locs ls hP hS hl
    have hf := (lp_X4_lettersToken_0_s N n f).symm.trans hf
    refine lv_aload_n hx hb dX4_lettersToken_0 rfl (lv_at hl 0 rfl) ?_
    refine va_get (D := D) (ci := 4) (v := .int (f 12 4)) (C := RX4) (T := TX4) (N := 7) hx hb hts hiX4 hown hK hP 12 rfl rfl 4 (by decide) lk25 (fun _ h9 => h9) rfl dX4_lettersToken_1 ?_
    refine lv_aload_n hx hb dX4_lettersToken_4 rfl (lv_at hl 0 rfl) ?_
    refine va_get (D := D) (ci := 4) (v := .ref (ad 1)) (C := RX4) (T := TX4) (N := 7) hx hb hts hiX4 hown hK hP 12 rfl rfl 0 (by decide) lk35 (fun _ h9 => h9) rfl dX4_lettersToken_5 ?_
    refine va_getN (D := D) (ci := 7) (v := .int (f 1 1)) (C := RX7) (T := TX7) (N := 2) hx hb hts hiX7 hown hK hP 1 rfl rfl 1 (by decide) ln91 (fun _ h9 => h9) rfl dX4_lettersToken_8 ?_
    refine lv_icmp_ge (tgt := 44) hx hb dX4_lettersToken_11 (by decide) (fun c11 => ?_) (fun c11 => ?_)
    · have hf := itT hf c11
      obtain rfl := Option.some.inj hf
      exact kx44 H locs ls hP hS (lv_sub hl [0] rfl)
    · have hf := itF hf c11
      refine lv_aload_n hx hb dX4_lettersToken_14 rfl (lv_at hl 0 rfl) ?_
      refine va_get (D := D) (ci := 4) (v := .ref (ad 1)) (C := RX4) (T := TX4) (N := 7) hx hb hts hiX4 hown hK hP 12 rfl rfl 0 (by decide) lk35 (fun _ h9 => h9) rfl dX4_lettersToken_15 ?_
      refine lv_aload_n hx hb dX4_lettersToken_18 rfl (lv_at hl 0 rfl) ?_
      refine va_get (D := D) (ci := 4) (v := .int (f 12 4)) (C := RX4) (T := TX4) (N := 7) hx hb hts hiX4 hown hK hP 12 rfl rfl 4 (by decide) lk25 (fun _ h9 => h9) rfl dX4_lettersToken_19 ?_
      obtain ⟨y1, hq2, hf⟩ := bi_out hf
      refine cw_vi (As := [.int (f 12 4)]) (rest := []) ⟨hx, hb, hml, hown, hts⟩ xP_S hK hX0 hS hP (c_X7_byteAt hj l (f 12 4) f t y1 hq2) (cwV 1 hts gX4_lettersToken_X7_byteAt rfl rfl rfl (by decide +kernel) ⟨Nat.le_trans (Nat.le_of_ble_eq_true rfl) hR.1, Nat.le_trans (Nat.le_of_ble_eq_true rfl) hR.2⟩) (va_recv hK hP (ci := 7) (q0 := 1) rfl rfl) rfl hl.1 rfl (Nat.le_of_ble_eq_true rfl) ⟨Nat.zero_le _, Nat.zero_le _⟩ dX4_lettersToken_22 (fun H locs hP hS => ?_)
      obtain ⟨y3, hq4, hf⟩ := bi_out hf
      refine cw_si (As := [.int y1]) (rest := []) ⟨hx, hb, hml, hown, hts⟩ xP_S hK hX0 hS hP (c_X4_isLetter hj l y1 f t y3 hq4) (va_cwS 1 hts gX4_lettersToken_X4_isLetter rfl rfl rfl (by decide +kernel) ⟨Nat.le_trans (Nat.le_of_ble_eq_true rfl) hR.1, Nat.le_trans (Nat.le_of_ble_eq_true rfl) hR.2⟩) rfl hl.1 rfl (Nat.le_of_ble_eq_true rfl) ⟨Nat.zero_le _, Nat.zero_le _⟩ dX4_lettersToken_25 (fun H locs hP hS => ?_)
      refine lv_if_eq (tgt := 44) hx hb dX4_lettersToken_28 (by decide) (fun c28 => ?_) (fun c28 => ?_)
      · have hf := itT hf c28
        obtain rfl := Option.some.inj hf
        exact kx44 H locs ls hP hS (lv_sub hl [0] rfl)
      · have hf := itF hf c28
        refine lv_aload_n hx hb dX4_lettersToken_31 rfl (lv_at hl 0 rfl) ?_
        refine lv_dup hx hb dX4_lettersToken_32 rfl ?_
        refine va_get (D := D) (ci := 4) (v := .int (f 12 4)) (C := RX4) (T := TX4) (N := 7) hx hb hts hiX4 hown hK hP 12 rfl rfl 4 (by decide) lk25 (fun _ h9 => h9) rfl dX4_lettersToken_33 ?_
        refine lv_iconst (v := 1) hx hb dX4_lettersToken_36 (by decide) ?_
        refine lv_iadd hx hb dX4_lettersToken_37 ?_
        obtain ⟨f5, ef5, hf⟩ := sq_out hf
        refine va_put (D := D) (ci := 4) (v := .int ((f 12 4) + 1)) (ty := .int) (C := RX4) (T := TX4) (N := 7) hx hb hts hiX4 tyX4 tyX4_ok nmX4 hown hK hP (dP hj f t) hS 12 rfl rfl 4 (by decide) lk25 (fun _ h9 => h9) rfl (by decide +kernel) rfl rfl (Nat.le_of_ble_eq_true rfl) dX4_lettersToken_38 (fun H locs hP _ hS => ?_)
        have hP := sP_12_4 ef5 hP
        refine lv_goto (tgt := 0) hx hb dX4_lettersToken_41 (by decide) ?_
        exact ih f5 hf H locs ls hP hS (lv_sub hl [0] rfl)
def q_X4_lettersToken (N : Nat) (f : mM) : Option (Int32 × mM) := bi (lp_X4_lettersToken_0 N N f) (fun f6 => bi (q_X4_isWord_12_0 N f6) (fun y8 => if y8 = 0 then bi (q_X4_isWord_12_1 N f6) (fun y10 => if y10 = 0 then bi (q_X4_isWord_12_2 N f6) (fun y12 => if y12 = 0 then bi (q_X4_isWord_12_3 N f6) (fun y14 => if y14 = 0 then some (0, f6) else some (7, f6)) else some (6, f6)) else some (5, f6)) else some (4, f6)))
set_option maxHeartbeats 4000000 in
set_option maxRecDepth 100000 in
theorem b_X4_lettersToken (C0 : cX p s m args meth c cX4_lettersToken 1 (some .int) RX4 wsX4_lettersToken D cy (xP ad sk sv)) (hj : jP ad) (hR : 5 ≤ R.frames ∧ 107 ≤ R.locals) (N : Nat)  (f : mM) (t : Int64) (r : Int32) (fR : mM) (hf : q_X4_lettersToken N f = some (r, fR)) (kr : ∀ (H : Heap) (locs : List Loc) (ls : Array Slot) (pc : Nat), decode cX4_lettersToken pc = .ok (.ireturn, 1) → va_P D vwCl (wP ad cy fR t) H → va_S (aP ad) s.heap H locs → W p l e R s m args below meth c H locs 0 0 Q (F0 m pc ls [.int r])) (H : Heap) (locs : List Loc) (ls : Array Slot) (hP : va_P D vwCl (wP ad cy f t) H) (hS : va_S (aP ad) s.heap H locs) (hl : lv_has ls 1 [(0, .ref (ad 12))]) : W p l e R s m args below meth c H locs 0 0 Q (F0 m 0 ls []) := by
  obtain ⟨hx, hb, hr, hml, hown, hts, hlocks, hK, hX0⟩ := id C0
  unfold q_X4_lettersToken at hf
  obtain ⟨f6, hlp7, hf⟩ := bi_out hf
  refine lp_X4_lettersToken_0_w C0 hj hR N t f6 ?_ N f hlp7 H locs ls hP hS (lv_sub hl [0] rfl)
  intro H locs ls hP hS hl
  refine lv_aload_n hx hb dX4_lettersToken_44 rfl (lv_at hl 0 rfl) ?_
  refine va_ldcS (q := sk 0) hx hb hown (hX0.2.2.1 _ (List.mem_of_getElem? (l := nSs) (i := 0) rfl)) dX4_lettersToken_45 ?_
  obtain ⟨y8, hq9, hf⟩ := bi_out hf
  refine cw_vi (As := [.ref (sk 0)]) (rest := []) ⟨hx, hb, hml, hown, hts⟩ xP_S hK hX0 hS hP (c_X4_isWord_12_0 hj l N f6 t y8 hq9) (cwV 1 hts gX4_lettersToken_X4_isWord rfl rfl rfl (by decide +kernel) ⟨Nat.le_trans (Nat.le_of_ble_eq_true rfl) hR.1, Nat.le_trans (Nat.le_of_ble_eq_true rfl) hR.2⟩) (va_recv hK hP (ci := 4) (q0 := 12) rfl rfl) rfl hl.1 rfl (Nat.le_of_ble_eq_true rfl) ⟨Nat.zero_le _, Nat.zero_le _⟩ dX4_lettersToken_47 (fun H locs hP hS => ?_)
  refine lv_if_eq (tgt := 55) hx hb dX4_lettersToken_50 (by decide) (fun c50 => ?_) (fun c50 => ?_)
  · have hf := itT hf c50
    refine lv_aload_n hx hb dX4_lettersToken_55 rfl (lv_at hl 0 rfl) ?_
    refine va_ldcS (q := sk 1) hx hb hown (hX0.2.2.1 _ (List.mem_of_getElem? (l := nSs) (i := 1) rfl)) dX4_lettersToken_56 ?_
    obtain ⟨y10, hq11, hf⟩ := bi_out hf
    refine cw_vi (As := [.ref (sk 1)]) (rest := []) ⟨hx, hb, hml, hown, hts⟩ xP_S hK hX0 hS hP (c_X4_isWord_12_1 hj l N f6 t y10 hq11) (cwV 1 hts gX4_lettersToken_X4_isWord rfl rfl rfl (by decide +kernel) ⟨Nat.le_trans (Nat.le_of_ble_eq_true rfl) hR.1, Nat.le_trans (Nat.le_of_ble_eq_true rfl) hR.2⟩) (va_recv hK hP (ci := 4) (q0 := 12) rfl rfl) rfl hl.1 rfl (Nat.le_of_ble_eq_true rfl) ⟨Nat.zero_le _, Nat.zero_le _⟩ dX4_lettersToken_58 (fun H locs hP hS => ?_)
    refine lv_if_eq (tgt := 66) hx hb dX4_lettersToken_61 (by decide) (fun c61 => ?_) (fun c61 => ?_)
    · have hf := itT hf c61
      refine lv_aload_n hx hb dX4_lettersToken_66 rfl (lv_at hl 0 rfl) ?_
      refine va_ldcS (q := sk 2) hx hb hown (hX0.2.2.1 _ (List.mem_of_getElem? (l := nSs) (i := 2) rfl)) dX4_lettersToken_67 ?_
      obtain ⟨y12, hq13, hf⟩ := bi_out hf
      refine cw_vi (As := [.ref (sk 2)]) (rest := []) ⟨hx, hb, hml, hown, hts⟩ xP_S hK hX0 hS hP (c_X4_isWord_12_2 hj l N f6 t y12 hq13) (cwV 1 hts gX4_lettersToken_X4_isWord rfl rfl rfl (by decide +kernel) ⟨Nat.le_trans (Nat.le_of_ble_eq_true rfl) hR.1, Nat.le_trans (Nat.le_of_ble_eq_true rfl) hR.2⟩) (va_recv hK hP (ci := 4) (q0 := 12) rfl rfl) rfl hl.1 rfl (Nat.le_of_ble_eq_true rfl) ⟨Nat.zero_le _, Nat.zero_le _⟩ dX4_lettersToken_69 (fun H locs hP hS => ?_)
      refine lv_if_eq (tgt := 78) hx hb dX4_lettersToken_72 (by decide) (fun c72 => ?_) (fun c72 => ?_)
      · have hf := itT hf c72
        refine lv_aload_n hx hb dX4_lettersToken_78 rfl (lv_at hl 0 rfl) ?_
        refine va_ldcS (q := sk 3) hx hb hown (hX0.2.2.1 _ (List.mem_of_getElem? (l := nSs) (i := 3) rfl)) dX4_lettersToken_79 ?_
        obtain ⟨y14, hq15, hf⟩ := bi_out hf
        refine cw_vi (As := [.ref (sk 3)]) (rest := []) ⟨hx, hb, hml, hown, hts⟩ xP_S hK hX0 hS hP (c_X4_isWord_12_3 hj l N f6 t y14 hq15) (cwV 1 hts gX4_lettersToken_X4_isWord rfl rfl rfl (by decide +kernel) ⟨Nat.le_trans (Nat.le_of_ble_eq_true rfl) hR.1, Nat.le_trans (Nat.le_of_ble_eq_true rfl) hR.2⟩) (va_recv hK hP (ci := 4) (q0 := 12) rfl rfl) rfl hl.1 rfl (Nat.le_of_ble_eq_true rfl) ⟨Nat.zero_le _, Nat.zero_le _⟩ dX4_lettersToken_81 (fun H locs hP hS => ?_)
        refine lv_if_eq (tgt := 92) hx hb dX4_lettersToken_84 (by decide) (fun c84 => ?_) (fun c84 => ?_)
        · have hf := itT hf c84
          refine lv_iconst (v := 0) hx hb dX4_lettersToken_92 (by decide) ?_
          obtain ⟨rfl, rfl⟩ := Prod.mk.inj (Option.some.inj hf)
          exact kr H locs ls 93 dX4_lettersToken_93 hP hS
        · have hf := itF hf c84
          refine lv_bipush (v := 7) hx hb dX4_lettersToken_87 (by decide) ?_
          refine lv_goto (tgt := 93) hx hb dX4_lettersToken_89 (by decide) ?_
          obtain ⟨rfl, rfl⟩ := Prod.mk.inj (Option.some.inj hf)
          exact kr H locs ls 93 dX4_lettersToken_93 hP hS
      · have hf := itF hf c72
        refine lv_bipush (v := 6) hx hb dX4_lettersToken_75 (by decide) ?_
        obtain ⟨rfl, rfl⟩ := Prod.mk.inj (Option.some.inj hf)
        exact kr H locs ls 77 dX4_lettersToken_77 hP hS
    · have hf := itF hf c61
      refine lv_iconst (v := 5) hx hb dX4_lettersToken_64 (by decide) ?_
      obtain ⟨rfl, rfl⟩ := Prod.mk.inj (Option.some.inj hf)
      exact kr H locs ls 65 dX4_lettersToken_65 hP hS
  · have hf := itF hf c50
    refine lv_iconst (v := 4) hx hb dX4_lettersToken_53 (by decide) ?_
    obtain ⟨rfl, rfl⟩ := Prod.mk.inj (Option.some.inj hf)
    exact kr H locs ls 54 dX4_lettersToken_54 hP hS
set_option maxHeartbeats 4000000 in
set_option maxRecDepth 100000 in
theorem c_X4_lettersToken (hj : jP ad) (l : Launch) (N : Nat)  (f : mM) (t : Int64) (r : Int32) (fR : mM) (hf : q_X4_lettersToken N f = some (r, fR)) : Met l yX4_lettersToken wsX4_lettersToken ({ frames := 5, cells := 0, slots := 0, locals := 107 }) (va_Pc ([.ref (ad 12)]) (pre D cy (wP ad cy) (xP ad sk sv) f t)) (va_Qi (fun (r2 : Int32) (u : mM × Int64) => r2 = r ∧ u = (fR, t)) (atW D (wP ad cy)) (aP ad)) 0 0 (aP ad) := by
  refine Met.ofW (cc := cX4_lettersToken) (maxL := 1) (ret := (some .int)) (by decide) rfl ?_
  intro p e s m args below meth c s₁ B hml hv
  obtain ⟨rfl, hP, hK, hX0⟩ := hv
  have hl := lv_entry ([.ref (ad 12)]) (n := 1) (Nat.le_of_ble_eq_true rfl)
  rw [lg_entry_eq]
  generalize (lg_sl ([.ref (ad 12)]) ++ List.replicate (1 - (lg_sl ([.ref (ad 12)])).length) Slot.unset).toArray = ls at hl ⊢
  have hlocks := B.notSynchronized
  exact b_X4_lettersToken ⟨B.exec, B.bytes, B.returns, hml, findClass_of_methodNamed B.named, atoms_spec (ws := wsX4_lettersToken) B.pre, hlocks, hK, hX0⟩ hj ⟨Nat.le_refl _, Nat.le_refl _⟩ N  f t r fR hf (fun H locs ls pc hd hP hS => W.iret B.exec B.bytes B.returns (fun t2 ht hW => ⟨⟨r, (fR, t), rfl, ⟨rfl, rfl⟩, by show va_P D vwCl _ t2.heap; rw [ht]; exact hP⟩, hS.F ht⟩) hS.2.2 hd) s.heap [] ls hP va_S.rf hl
def lp_X4_digitsToken_18 (N : Nat)  : Nat → mM → Option (mM)
  | 0, _ => none
  | n + 1, f => if (f 1 1) ≤ (f 12 4) then some f else bi (q_X7_byteAt (f 12 4) f) (fun y4 => bi (q_X4_isDigit y4) (fun y6 => if y6 = 0 then some f else bi (q_X7_byteAt (f 12 4) f) (fun y8 => sq (st2 f 12 5 (if 100 < (((10 * (f 12 5)) + y8) - 48) then 100 else (((10 * (f 12 5)) + y8) - 48))) (fun f10 => sq (st2 f10 12 4 ((f10 12 4) + 1)) (fun f11 => lp_X4_digitsToken_18 N n f11)))))
theorem lp_X4_digitsToken_18_s (N : Nat)  (n : Nat) (f : mM) : lp_X4_digitsToken_18 N (n + 1) f = (if (f 1 1) ≤ (f 12 4) then some f else bi (q_X7_byteAt (f 12 4) f) (fun y4 => bi (q_X4_isDigit y4) (fun y6 => if y6 = 0 then some f else bi (q_X7_byteAt (f 12 4) f) (fun y8 => sq (st2 f 12 5 (if 100 < (((10 * (f 12 5)) + y8) - 48) then 100 else (((10 * (f 12 5)) + y8) - 48))) (fun f10 => sq (st2 f10 12 4 ((f10 12 4) + 1)) (fun f11 => lp_X4_digitsToken_18 N n f11)))))) := rfl
set_option maxHeartbeats 4000000 in
set_option maxRecDepth 100000 in
theorem lp_X4_digitsToken_18_w (C0 : cX p s m args meth c cX4_digitsToken 2 (some .int) RX4 wsX4_digitsToken D cy (xP ad sk sv)) (hj : jP ad) (hR : 1 ≤ R.frames ∧ 21 ≤ R.locals) (N : Nat)  (t : Int64) (fR : mM) (kx93 : ∀ (H : Heap) (locs : List Loc) (ls : Array Slot), va_P D vwCl (wP ad cy fR t) H → va_S (aP ad) s.heap H locs → lv_has ls 2 [(0, .ref (ad 12))] → W p l e R s m args below meth c H locs 0 0 Q (F0 m 93 ls [])) : ∀ (n : Nat) (f : mM), lp_X4_digitsToken_18 N n f = some fR → ∀ (H : Heap) (locs : List Loc) (ls : Array Slot), va_P D vwCl (wP ad cy f t) H → va_S (aP ad) s.heap H locs → lv_has ls 2 [(0, .ref (ad 12))] → W p l e R s m args below meth c H locs 0 0 Q (F0 m 18 ls []) := by
  obtain ⟨hx, hb, hr, hml, hown, hts, hlocks, hK, hX0⟩ := id C0
  have lk25 := hts (.fieldLink RX4 25 "PlankNine$Reader" "behind" "I") (List.mem_of_getElem? (i := 4) rfl)
  have hiX4 : ∀ w ∈ u_ws RX4 TX4 7, w ∈ wsX4_digitsToken := fun w h => List.mem_cons_of_mem _ (List.mem_append_left _ (List.mem_append_right _ h))
  have lk35 := hts (.fieldLink RX4 35 "PlankNine$Reader" "text" "LPlankNine$Text;") (List.mem_of_getElem? (i := 1) rfl)
  have ln91 := nlF_1 (args := args) hX0
  have hiX7 : ∀ w ∈ u_ws RX7 TX7 2, w ∈ wsX4_digitsToken := fun w h => List.mem_cons_of_mem _ (List.mem_append_right _ h)
  have lk28 := hts (.fieldLink RX4 28 "PlankNine$Reader" "value" "I") (List.mem_of_getElem? (i := 3) rfl)
  intro n
  induction n with
  | zero =>
    intro f hf
    exact no_none hf
  | succ n ih =>
    intro f hf H locs ls hP hS hl
    have hf := (lp_X4_digitsToken_18_s N n f).symm.trans hf
    refine lv_aload_n hx hb dX4_digitsToken_18 rfl (lv_at hl 0 rfl) ?_
    refine va_get (D := D) (ci := 4) (v := .int (f 12 4)) (C := RX4) (T := TX4) (N := 7) hx hb hts hiX4 hown hK hP 12 rfl rfl 4 (by decide) lk25 (fun _ h9 => h9) rfl dX4_digitsToken_19 ?_
    refine lv_aload_n hx hb dX4_digitsToken_22 rfl (lv_at hl 0 rfl) ?_
    refine va_get (D := D) (ci := 4) (v := .ref (ad 1)) (C := RX4) (T := TX4) (N := 7) hx hb hts hiX4 hown hK hP 12 rfl rfl 0 (by decide) lk35 (fun _ h9 => h9) rfl dX4_digitsToken_23 ?_
    refine va_getN (D := D) (ci := 7) (v := .int (f 1 1)) (C := RX7) (T := TX7) (N := 2) hx hb hts hiX7 hown hK hP 1 rfl rfl 1 (by decide) ln91 (fun _ h9 => h9) rfl dX4_digitsToken_26 ?_
    refine lv_icmp_ge (tgt := 93) hx hb dX4_digitsToken_29 (by decide) (fun c29 => ?_) (fun c29 => ?_)
    · have hf := itT hf c29
      obtain rfl := Option.some.inj hf
      exact kx93 H locs ls hP hS (lv_sub hl [0] rfl)
    · have hf := itF hf c29
      refine lv_aload_n hx hb dX4_digitsToken_32 rfl (lv_at hl 0 rfl) ?_
      refine va_get (D := D) (ci := 4) (v := .ref (ad 1)) (C := RX4) (T := TX4) (N := 7) hx hb hts hiX4 hown hK hP 12 rfl rfl 0 (by decide) lk35 (fun _ h9 => h9) rfl dX4_digitsToken_33 ?_
      refine lv_aload_n hx hb dX4_digitsToken_36 rfl (lv_at hl 0 rfl) ?_
      refine va_get (D := D) (ci := 4) (v := .int (f 12 4)) (C := RX4) (T := TX4) (N := 7) hx hb hts hiX4 hown hK hP 12 rfl rfl 4 (by decide) lk25 (fun _ h9 => h9) rfl dX4_digitsToken_37 ?_
      obtain ⟨y4, hq5, hf⟩ := bi_out hf
      refine cw_vi (As := [.int (f 12 4)]) (rest := []) ⟨hx, hb, hml, hown, hts⟩ xP_S hK hX0 hS hP (c_X7_byteAt hj l (f 12 4) f t y4 hq5) (cwV 1 hts gX4_digitsToken_X7_byteAt rfl rfl rfl (by decide +kernel) ⟨Nat.le_trans (Nat.le_of_ble_eq_true rfl) hR.1, Nat.le_trans (Nat.le_of_ble_eq_true rfl) hR.2⟩) (va_recv hK hP (ci := 7) (q0 := 1) rfl rfl) rfl hl.1 rfl (Nat.le_of_ble_eq_true rfl) ⟨Nat.zero_le _, Nat.zero_le _⟩ dX4_digitsToken_40 (fun H locs hP hS => ?_)
      obtain ⟨y6, hq7, hf⟩ := bi_out hf
      refine cw_si (As := [.int y4]) (rest := []) ⟨hx, hb, hml, hown, hts⟩ xP_S hK hX0 hS hP (c_X4_isDigit hj l y4 f t y6 hq7) (va_cwS 1 hts gX4_digitsToken_X4_isDigit rfl rfl rfl (by decide +kernel) ⟨Nat.le_trans (Nat.le_of_ble_eq_true rfl) hR.1, Nat.le_trans (Nat.le_of_ble_eq_true rfl) hR.2⟩) rfl hl.1 rfl (Nat.le_of_ble_eq_true rfl) ⟨Nat.zero_le _, Nat.zero_le _⟩ dX4_digitsToken_43 (fun H locs hP hS => ?_)
      refine lv_if_eq (tgt := 93) hx hb dX4_digitsToken_46 (by decide) (fun c46 => ?_) (fun c46 => ?_)
      · have hf := itT hf c46
        obtain rfl := Option.some.inj hf
        exact kx93 H locs ls hP hS (lv_sub hl [0] rfl)
      · have hf := itF hf c46
        refine lv_aload_n hx hb dX4_digitsToken_49 rfl (lv_at hl 0 rfl) ?_
        refine lv_bipush (v := 10) hx hb dX4_digitsToken_50 (by decide) ?_
        refine lv_aload_n hx hb dX4_digitsToken_52 rfl (lv_at hl 0 rfl) ?_
        refine va_get (D := D) (ci := 4) (v := .int (f 12 5)) (C := RX4) (T := TX4) (N := 7) hx hb hts hiX4 hown hK hP 12 rfl rfl 5 (by decide) lk28 (fun _ h9 => h9) rfl dX4_digitsToken_53 ?_
        refine lv_imul hx hb dX4_digitsToken_56 ?_
        refine lv_aload_n hx hb dX4_digitsToken_57 rfl (lv_at hl 0 rfl) ?_
        refine va_get (D := D) (ci := 4) (v := .ref (ad 1)) (C := RX4) (T := TX4) (N := 7) hx hb hts hiX4 hown hK hP 12 rfl rfl 0 (by decide) lk35 (fun _ h9 => h9) rfl dX4_digitsToken_58 ?_
        refine lv_aload_n hx hb dX4_digitsToken_61 rfl (lv_at hl 0 rfl) ?_
        refine va_get (D := D) (ci := 4) (v := .int (f 12 4)) (C := RX4) (T := TX4) (N := 7) hx hb hts hiX4 hown hK hP 12 rfl rfl 4 (by decide) lk25 (fun _ h9 => h9) rfl dX4_digitsToken_62 ?_
        obtain ⟨y8, hq9, hf⟩ := bi_out hf
        refine cw_vi (As := [.int (f 12 4)]) (rest := [.int (10 * (f 12 5)), .ref (ad 12)]) ⟨hx, hb, hml, hown, hts⟩ xP_S hK hX0 hS hP (c_X7_byteAt hj l (f 12 4) f t y8 hq9) (cwV 1 hts gX4_digitsToken_X7_byteAt rfl rfl rfl (by decide +kernel) ⟨Nat.le_trans (Nat.le_of_ble_eq_true rfl) hR.1, Nat.le_trans (Nat.le_of_ble_eq_true rfl) hR.2⟩) (va_recv hK hP (ci := 7) (q0 := 1) rfl rfl) rfl hl.1 rfl (Nat.le_of_ble_eq_true rfl) ⟨Nat.zero_le _, Nat.zero_le _⟩ dX4_digitsToken_65 (fun H locs hP hS => ?_)
        refine lv_iadd hx hb dX4_digitsToken_68 ?_
        refine lv_bipush (v := 48) hx hb dX4_digitsToken_69 (by decide) ?_
        refine lv_isub hx hb dX4_digitsToken_71 ?_
        refine lv_bipush (v := 100) hx hb dX4_digitsToken_72 (by decide) ?_
        refine va_mmin hx hb (by rw [hml]; exact hl.1.symm) hown (hts (.methodLink RX4 113 Lib.Math.min.name) (by decide +kernel)) (hts (.static Lib.Math.min.name) (by decide +kernel)) (hts (.initialized "java/lang/Math") (by decide +kernel)) (hts (.code Lib.Math.min.name Lib.Math.min.code 2 (some .int)) (by decide +kernel)) (Nat.le_trans (by decide) hR.1) (Nat.le_trans (Nat.le_of_ble_eq_true rfl) hR.2) (Nat.zero_le _) (Nat.zero_le _) dX4_digitsToken_74 ?_
        obtain ⟨f10, ef10, hf⟩ := sq_out hf
        refine va_put (D := D) (ci := 4) (v := .int (if 100 < (((10 * (f 12 5)) + y8) - 48) then 100 else (((10 * (f 12 5)) + y8) - 48))) (ty := .int) (C := RX4) (T := TX4) (N := 7) hx hb hts hiX4 tyX4 tyX4_ok nmX4 hown hK hP (dP hj f t) hS 12 rfl rfl 5 (by decide) lk28 (fun _ h9 => h9) rfl (by decide +kernel) rfl rfl (Nat.le_of_ble_eq_true rfl) dX4_digitsToken_77 (fun H locs hP _ hS => ?_)
        have hP := sP_12_5 ef10 hP
        refine lv_aload_n hx hb dX4_digitsToken_80 rfl (lv_at hl 0 rfl) ?_
        refine lv_dup hx hb dX4_digitsToken_81 rfl ?_
        refine va_get (D := D) (ci := 4) (v := .int (f10 12 4)) (C := RX4) (T := TX4) (N := 7) hx hb hts hiX4 hown hK hP 12 rfl rfl 4 (by decide) lk25 (fun _ h9 => h9) rfl dX4_digitsToken_82 ?_
        refine lv_iconst (v := 1) hx hb dX4_digitsToken_85 (by decide) ?_
        refine lv_iadd hx hb dX4_digitsToken_86 ?_
        obtain ⟨f11, ef11, hf⟩ := sq_out hf
        refine va_put (D := D) (ci := 4) (v := .int ((f10 12 4) + 1)) (ty := .int) (C := RX4) (T := TX4) (N := 7) hx hb hts hiX4 tyX4 tyX4_ok nmX4 hown hK hP (dP hj f10 t) hS 12 rfl rfl 4 (by decide) lk25 (fun _ h9 => h9) rfl (by decide +kernel) rfl rfl (Nat.le_of_ble_eq_true rfl) dX4_digitsToken_87 (fun H locs hP _ hS => ?_)
        have hP := sP_12_4 ef11 hP
        refine lv_goto (tgt := 18) hx hb dX4_digitsToken_90 (by decide) ?_
        exact ih f11 hf H locs ls hP hS (lv_sub hl [0] rfl)
def q_X4_digitsToken (N : Nat) (f : mM) : Option (Int32 × mM) := bi (q_X7_byteAt (f 12 3) f) (fun y1 => sq (st2 f 12 5 (y1 - 48)) (fun f3 => bi (lp_X4_digitsToken_18 N N f3) (fun f12 => bi (q_X7_byteAt (f12 12 3) f12) (fun y14 => sq (fun (v16 : Int32) => if v16 = 0 then if (f12 12 5) ≤ 99 then some (3, f12) else some (0, f12) else some (0, f12)) (fun k17 => sq (fun (_ : Unit) => k17 0) (fun k18 => if y14 = 48 then if ((f12 12 4) - (f12 12 3)) ≤ 1 then k18 () else k17 1 else k18 ()))))))
set_option maxHeartbeats 4000000 in
set_option maxRecDepth 100000 in
theorem b_X4_digitsToken (C0 : cX p s m args meth c cX4_digitsToken 2 (some .int) RX4 wsX4_digitsToken D cy (xP ad sk sv)) (hj : jP ad) (hR : 1 ≤ R.frames ∧ 21 ≤ R.locals) (N : Nat)  (f : mM) (t : Int64) (r : Int32) (fR : mM) (hf : q_X4_digitsToken N f = some (r, fR)) (kr : ∀ (H : Heap) (locs : List Loc) (ls : Array Slot) (pc : Nat), decode cX4_digitsToken pc = .ok (.ireturn, 1) → va_P D vwCl (wP ad cy fR t) H → va_S (aP ad) s.heap H locs → W p l e R s m args below meth c H locs 0 0 Q (F0 m pc ls [.int r])) (H : Heap) (locs : List Loc) (ls : Array Slot) (hP : va_P D vwCl (wP ad cy f t) H) (hS : va_S (aP ad) s.heap H locs) (hl : lv_has ls 2 [(0, .ref (ad 12))]) : W p l e R s m args below meth c H locs 0 0 Q (F0 m 0 ls []) := by
  obtain ⟨hx, hb, hr, hml, hown, hts, hlocks, hK, hX0⟩ := id C0
  have lk35 := hts (.fieldLink RX4 35 "PlankNine$Reader" "text" "LPlankNine$Text;") (List.mem_of_getElem? (i := 1) rfl)
  have hiX4 : ∀ w ∈ u_ws RX4 TX4 7, w ∈ wsX4_digitsToken := fun w h => List.mem_cons_of_mem _ (List.mem_append_left _ (List.mem_append_right _ h))
  have lk22 := hts (.fieldLink RX4 22 "PlankNine$Reader" "start" "I") (List.mem_of_getElem? (i := 2) rfl)
  have lk28 := hts (.fieldLink RX4 28 "PlankNine$Reader" "value" "I") (List.mem_of_getElem? (i := 3) rfl)
  have lk25 := hts (.fieldLink RX4 25 "PlankNine$Reader" "behind" "I") (List.mem_of_getElem? (i := 4) rfl)
  unfold q_X4_digitsToken at hf
  refine lv_aload_n hx hb dX4_digitsToken_0 rfl (lv_at hl 0 rfl) ?_
  refine lv_aload_n hx hb dX4_digitsToken_1 rfl (lv_at hl 0 rfl) ?_
  refine va_get (D := D) (ci := 4) (v := .ref (ad 1)) (C := RX4) (T := TX4) (N := 7) hx hb hts hiX4 hown hK hP 12 rfl rfl 0 (by decide) lk35 (fun _ h9 => h9) rfl dX4_digitsToken_2 ?_
  refine lv_aload_n hx hb dX4_digitsToken_5 rfl (lv_at hl 0 rfl) ?_
  refine va_get (D := D) (ci := 4) (v := .int (f 12 3)) (C := RX4) (T := TX4) (N := 7) hx hb hts hiX4 hown hK hP 12 rfl rfl 3 (by decide) lk22 (fun _ h9 => h9) rfl dX4_digitsToken_6 ?_
  obtain ⟨y1, hq2, hf⟩ := bi_out hf
  refine cw_vi (As := [.int (f 12 3)]) (rest := [.ref (ad 12)]) ⟨hx, hb, hml, hown, hts⟩ xP_S hK hX0 hS hP (c_X7_byteAt hj l (f 12 3) f t y1 hq2) (cwV 1 hts gX4_digitsToken_X7_byteAt rfl rfl rfl (by decide +kernel) ⟨Nat.le_trans (Nat.le_of_ble_eq_true rfl) hR.1, Nat.le_trans (Nat.le_of_ble_eq_true rfl) hR.2⟩) (va_recv hK hP (ci := 7) (q0 := 1) rfl rfl) rfl hl.1 rfl (Nat.le_of_ble_eq_true rfl) ⟨Nat.zero_le _, Nat.zero_le _⟩ dX4_digitsToken_9 (fun H locs hP hS => ?_)
  refine lv_bipush (v := 48) hx hb dX4_digitsToken_12 (by decide) ?_
  refine lv_isub hx hb dX4_digitsToken_14 ?_
  obtain ⟨f3, ef3, hf⟩ := sq_out hf
  refine va_put (D := D) (ci := 4) (v := .int (y1 - 48)) (ty := .int) (C := RX4) (T := TX4) (N := 7) hx hb hts hiX4 tyX4 tyX4_ok nmX4 hown hK hP (dP hj f t) hS 12 rfl rfl 5 (by decide) lk28 (fun _ h9 => h9) rfl (by decide +kernel) rfl rfl (Nat.le_of_ble_eq_true rfl) dX4_digitsToken_15 (fun H locs hP _ hS => ?_)
  have hP := sP_12_5 ef3 hP
  obtain ⟨f12, hlp13, hf⟩ := bi_out hf
  refine lp_X4_digitsToken_18_w C0 hj hR N t f12 ?_ N f3 hlp13 H locs ls hP hS (lv_sub hl [0] rfl)
  intro H locs ls hP hS hl
  refine lv_aload_n hx hb dX4_digitsToken_93 rfl (lv_at hl 0 rfl) ?_
  refine va_get (D := D) (ci := 4) (v := .ref (ad 1)) (C := RX4) (T := TX4) (N := 7) hx hb hts hiX4 hown hK hP 12 rfl rfl 0 (by decide) lk35 (fun _ h9 => h9) rfl dX4_digitsToken_94 ?_
  refine lv_aload_n hx hb dX4_digitsToken_97 rfl (lv_at hl 0 rfl) ?_
  refine va_get (D := D) (ci := 4) (v := .int (f12 12 3)) (C := RX4) (T := TX4) (N := 7) hx hb hts hiX4 hown hK hP 12 rfl rfl 3 (by decide) lk22 (fun _ h9 => h9) rfl dX4_digitsToken_98 ?_
  obtain ⟨y14, hq15, hf⟩ := bi_out hf
  refine cw_vi (As := [.int (f12 12 3)]) (rest := []) ⟨hx, hb, hml, hown, hts⟩ xP_S hK hX0 hS hP (c_X7_byteAt hj l (f12 12 3) f12 t y14 hq15) (cwV 1 hts gX4_digitsToken_X7_byteAt rfl rfl rfl (by decide +kernel) ⟨Nat.le_trans (Nat.le_of_ble_eq_true rfl) hR.1, Nat.le_trans (Nat.le_of_ble_eq_true rfl) hR.2⟩) (va_recv hK hP (ci := 7) (q0 := 1) rfl rfl) rfl hl.1 rfl (Nat.le_of_ble_eq_true rfl) ⟨Nat.zero_le _, Nat.zero_le _⟩ dX4_digitsToken_101 (fun H locs hP hS => ?_)
  refine lv_bipush (v := 48) hx hb dX4_digitsToken_104 (by decide) ?_
  obtain ⟨k17, ek17, hf⟩ := sq_out hf
  have hk17 : ∀ (v16 : Int32), k17 v16 = some (r, fR) → ∀ (H : Heap) (locs : List Loc) (ls : Array Slot), va_P D vwCl (wP ad cy f12 t) H → va_S (aP ad) s.heap H locs → lv_has ls 2 [(0, .ref (ad 12))] → W p l e R s m args below meth c H locs 0 0 Q (F0 m 127 ls [.int v16]) := by
    intro v16 hf H locs ls hP hS hl
    have hf := sk1 ek17 v16 hf
    refine lv_istore_n (lv' := [(1, .int v16), (0, .ref (ad 12))]) hx hb dX4_digitsToken_127 rfl hl (by decide) rfl (fun ls hl => ?_)
    refine lv_iload_n hx hb dX4_digitsToken_128 rfl (lv_at hl 0 rfl) ?_
    refine lv_if_ne (tgt := 141) hx hb dX4_digitsToken_129 (by decide) (fun c129 => ?_) (fun c129 => ?_)
    · have hf := itF hf c129
      refine lv_iconst (v := 0) hx hb dX4_digitsToken_141 (by decide) ?_
      refine lv_goto (tgt := 146) hx hb dX4_digitsToken_142 (by decide) ?_
      obtain ⟨rfl, rfl⟩ := Prod.mk.inj (Option.some.inj hf)
      exact kr H locs ls 146 dX4_digitsToken_146 hP hS
    · have hf := itT hf c129
      refine lv_aload_n hx hb dX4_digitsToken_132 rfl (lv_at hl 1 rfl) ?_
      refine va_get (D := D) (ci := 4) (v := .int (f12 12 5)) (C := RX4) (T := TX4) (N := 7) hx hb hts hiX4 hown hK hP 12 rfl rfl 5 (by decide) lk28 (fun _ h9 => h9) rfl dX4_digitsToken_133 ?_
      refine lv_bipush (v := 99) hx hb dX4_digitsToken_136 (by decide) ?_
      refine lv_icmp_le (tgt := 145) hx hb dX4_digitsToken_138 (by decide) (fun c138 => ?_) (fun c138 => ?_)
      · have hf := itT hf c138
        refine lv_iconst (v := 3) hx hb dX4_digitsToken_145 (by decide) ?_
        obtain ⟨rfl, rfl⟩ := Prod.mk.inj (Option.some.inj hf)
        exact kr H locs ls 146 dX4_digitsToken_146 hP hS
      · have hf := itF hf c138
        refine lv_iconst (v := 0) hx hb dX4_digitsToken_141 (by decide) ?_
        refine lv_goto (tgt := 146) hx hb dX4_digitsToken_142 (by decide) ?_
        obtain ⟨rfl, rfl⟩ := Prod.mk.inj (Option.some.inj hf)
        exact kr H locs ls 146 dX4_digitsToken_146 hP hS
  obtain ⟨k18, ek18, hf⟩ := sq_out hf
  have hk18 : k18 () = some (r, fR) → ∀ (H : Heap) (locs : List Loc) (ls : Array Slot), va_P D vwCl (wP ad cy f12 t) H → va_S (aP ad) s.heap H locs → lv_has ls 2 [(0, .ref (ad 12))] → W p l e R s m args below meth c H locs 0 0 Q (F0 m 126 ls []) := by
    intro hf H locs ls hP hS hl
    have hf := sk1 ek18 () hf
    refine lv_iconst (v := 0) hx hb dX4_digitsToken_126 (by decide) ?_
    exact hk17 0 hf H locs ls hP hS (lv_sub hl [0] rfl)
  refine lv_icmp_ne (tgt := 126) hx hb dX4_digitsToken_106 (by decide) (fun c106 => ?_) (fun c106 => ?_)
  · have hf := itF hf c106
    exact hk18 hf H locs ls hP hS (lv_sub hl [0] rfl)
  · have hf := itT hf c106
    refine lv_aload_n hx hb dX4_digitsToken_109 rfl (lv_at hl 0 rfl) ?_
    refine va_get (D := D) (ci := 4) (v := .int (f12 12 4)) (C := RX4) (T := TX4) (N := 7) hx hb hts hiX4 hown hK hP 12 rfl rfl 4 (by decide) lk25 (fun _ h9 => h9) rfl dX4_digitsToken_110 ?_
    refine lv_aload_n hx hb dX4_digitsToken_113 rfl (lv_at hl 0 rfl) ?_
    refine va_get (D := D) (ci := 4) (v := .int (f12 12 3)) (C := RX4) (T := TX4) (N := 7) hx hb hts hiX4 hown hK hP 12 rfl rfl 3 (by decide) lk22 (fun _ h9 => h9) rfl dX4_digitsToken_114 ?_
    refine lv_isub hx hb dX4_digitsToken_117 ?_
    refine lv_iconst (v := 1) hx hb dX4_digitsToken_118 (by decide) ?_
    refine lv_icmp_le (tgt := 126) hx hb dX4_digitsToken_119 (by decide) (fun c119 => ?_) (fun c119 => ?_)
    · have hf := itT hf c119
      exact hk18 hf H locs ls hP hS (lv_sub hl [0] rfl)
    · have hf := itF hf c119
      refine lv_iconst (v := 1) hx hb dX4_digitsToken_122 (by decide) ?_
      refine lv_goto (tgt := 127) hx hb dX4_digitsToken_123 (by decide) ?_
      exact hk17 1 hf H locs ls hP hS (lv_sub hl [0] rfl)
set_option maxHeartbeats 4000000 in
set_option maxRecDepth 100000 in
theorem c_X4_digitsToken (hj : jP ad) (l : Launch) (N : Nat)  (f : mM) (t : Int64) (r : Int32) (fR : mM) (hf : q_X4_digitsToken N f = some (r, fR)) : Met l yX4_digitsToken wsX4_digitsToken ({ frames := 1, cells := 0, slots := 0, locals := 21 }) (va_Pc ([.ref (ad 12)]) (pre D cy (wP ad cy) (xP ad sk sv) f t)) (va_Qi (fun (r2 : Int32) (u : mM × Int64) => r2 = r ∧ u = (fR, t)) (atW D (wP ad cy)) (aP ad)) 0 0 (aP ad) := by
  refine Met.ofW (cc := cX4_digitsToken) (maxL := 2) (ret := (some .int)) (by decide) rfl ?_
  intro p e s m args below meth c s₁ B hml hv
  obtain ⟨rfl, hP, hK, hX0⟩ := hv
  have hl := lv_entry ([.ref (ad 12)]) (n := 2) (Nat.le_of_ble_eq_true rfl)
  rw [lg_entry_eq]
  generalize (lg_sl ([.ref (ad 12)]) ++ List.replicate (2 - (lg_sl ([.ref (ad 12)])).length) Slot.unset).toArray = ls at hl ⊢
  have hlocks := B.notSynchronized
  exact b_X4_digitsToken ⟨B.exec, B.bytes, B.returns, hml, findClass_of_methodNamed B.named, atoms_spec (ws := wsX4_digitsToken) B.pre, hlocks, hK, hX0⟩ hj ⟨Nat.le_refl _, Nat.le_refl _⟩ N  f t r fR hf (fun H locs ls pc hd hP hS => W.iret B.exec B.bytes B.returns (fun t2 ht hW => ⟨⟨r, (fR, t), rfl, ⟨rfl, rfl⟩, by show va_P D vwCl _ t2.heap; rw [ht]; exact hP⟩, hS.F ht⟩) hS.2.2 hd) s.heap [] ls hP va_S.rf hl
def lp_X4_readToken_8 (N : Nat)  : Nat → mM → Option (mM)
  | 0, _ => none
  | n + 1, f => if (f 1 1) ≤ (f 12 3) then some f else bi (q_X7_byteAt (f 12 3) f) (fun y2 => if y2 = 32 then sq (st2 f 12 3 ((f 12 3) + 1)) (fun f4 => lp_X4_readToken_8 N n f4) else some f)
theorem lp_X4_readToken_8_s (N : Nat)  (n : Nat) (f : mM) : lp_X4_readToken_8 N (n + 1) f = (if (f 1 1) ≤ (f 12 3) then some f else bi (q_X7_byteAt (f 12 3) f) (fun y2 => if y2 = 32 then sq (st2 f 12 3 ((f 12 3) + 1)) (fun f4 => lp_X4_readToken_8 N n f4) else some f)) := rfl
set_option maxHeartbeats 4000000 in
set_option maxRecDepth 100000 in
theorem lp_X4_readToken_8_w (C0 : cX p s m args meth c cX4_readToken 2 none RX4 wsX4_readToken D cy (xP ad sk sv)) (hj : jP ad) (hR : 6 ≤ R.frames ∧ 127 ≤ R.locals) (N : Nat)  (t : Int64) (fR : mM) (kx51 : ∀ (H : Heap) (locs : List Loc) (ls : Array Slot), va_P D vwCl (wP ad cy fR t) H → va_S (aP ad) s.heap H locs → lv_has ls 2 [(0, .ref (ad 12))] → W p l e R s m args below meth c H locs 0 0 Q (F0 m 51 ls [])) : ∀ (n : Nat) (f : mM), lp_X4_readToken_8 N n f = some fR → ∀ (H : Heap) (locs : List Loc) (ls : Array Slot), va_P D vwCl (wP ad cy f t) H → va_S (aP ad) s.heap H locs → lv_has ls 2 [(0, .ref (ad 12))] → W p l e R s m args below meth c H locs 0 0 Q (F0 m 8 ls []) := by
  obtain ⟨hx, hb, hr, hml, hown, hts, hlocks, hK, hX0⟩ := id C0
  have lk22 := hts (.fieldLink RX4 22 "PlankNine$Reader" "start" "I") (List.mem_of_getElem? (i := 2) rfl)
  have hiX4 : ∀ w ∈ u_ws RX4 TX4 7, w ∈ wsX4_readToken := fun w h => List.mem_cons_of_mem _ (List.mem_append_left _ (List.mem_append_right _ h))
  have lk35 := hts (.fieldLink RX4 35 "PlankNine$Reader" "text" "LPlankNine$Text;") (List.mem_of_getElem? (i := 3) rfl)
  have ln91 := nlF_1 (args := args) hX0
  have hiX7 : ∀ w ∈ u_ws RX7 TX7 2, w ∈ wsX4_readToken := fun w h => List.mem_cons_of_mem _ (List.mem_append_right _ h)
  intro n
  induction n with
  | zero =>
    intro f hf
    exact no_none hf
  | succ n ih =>
    intro f hf H locs ls hP hS hl
    have hf := (lp_X4_readToken_8_s N n f).symm.trans hf
    refine lv_aload_n hx hb dX4_readToken_8 rfl (lv_at hl 0 rfl) ?_
    refine va_get (D := D) (ci := 4) (v := .int (f 12 3)) (C := RX4) (T := TX4) (N := 7) hx hb hts hiX4 hown hK hP 12 rfl rfl 3 (by decide) lk22 (fun _ h9 => h9) rfl dX4_readToken_9 ?_
    refine lv_aload_n hx hb dX4_readToken_12 rfl (lv_at hl 0 rfl) ?_
    refine va_get (D := D) (ci := 4) (v := .ref (ad 1)) (C := RX4) (T := TX4) (N := 7) hx hb hts hiX4 hown hK hP 12 rfl rfl 0 (by decide) lk35 (fun _ h9 => h9) rfl dX4_readToken_13 ?_
    refine va_getN (D := D) (ci := 7) (v := .int (f 1 1)) (C := RX7) (T := TX7) (N := 2) hx hb hts hiX7 hown hK hP 1 rfl rfl 1 (by decide) ln91 (fun _ h9 => h9) rfl dX4_readToken_16 ?_
    refine lv_icmp_ge (tgt := 51) hx hb dX4_readToken_19 (by decide) (fun c19 => ?_) (fun c19 => ?_)
    · have hf := itT hf c19
      obtain rfl := Option.some.inj hf
      exact kx51 H locs ls hP hS (lv_sub hl [0] rfl)
    · have hf := itF hf c19
      refine lv_aload_n hx hb dX4_readToken_22 rfl (lv_at hl 0 rfl) ?_
      refine va_get (D := D) (ci := 4) (v := .ref (ad 1)) (C := RX4) (T := TX4) (N := 7) hx hb hts hiX4 hown hK hP 12 rfl rfl 0 (by decide) lk35 (fun _ h9 => h9) rfl dX4_readToken_23 ?_
      refine lv_aload_n hx hb dX4_readToken_26 rfl (lv_at hl 0 rfl) ?_
      refine va_get (D := D) (ci := 4) (v := .int (f 12 3)) (C := RX4) (T := TX4) (N := 7) hx hb hts hiX4 hown hK hP 12 rfl rfl 3 (by decide) lk22 (fun _ h9 => h9) rfl dX4_readToken_27 ?_
      obtain ⟨y2, hq3, hf⟩ := bi_out hf
      refine cw_vi (As := [.int (f 12 3)]) (rest := []) ⟨hx, hb, hml, hown, hts⟩ xP_S hK hX0 hS hP (c_X7_byteAt hj l (f 12 3) f t y2 hq3) (cwV 1 hts gX4_readToken_X7_byteAt rfl rfl rfl (by decide +kernel) ⟨Nat.le_trans (Nat.le_of_ble_eq_true rfl) hR.1, Nat.le_trans (Nat.le_of_ble_eq_true rfl) hR.2⟩) (va_recv hK hP (ci := 7) (q0 := 1) rfl rfl) rfl hl.1 rfl (Nat.le_of_ble_eq_true rfl) ⟨Nat.zero_le _, Nat.zero_le _⟩ dX4_readToken_30 (fun H locs hP hS => ?_)
      refine lv_bipush (v := 32) hx hb dX4_readToken_33 (by decide) ?_
      refine lv_icmp_ne (tgt := 51) hx hb dX4_readToken_35 (by decide) (fun c35 => ?_) (fun c35 => ?_)
      · have hf := itF hf c35
        obtain rfl := Option.some.inj hf
        exact kx51 H locs ls hP hS (lv_sub hl [0] rfl)
      · have hf := itT hf c35
        refine lv_aload_n hx hb dX4_readToken_38 rfl (lv_at hl 0 rfl) ?_
        refine lv_dup hx hb dX4_readToken_39 rfl ?_
        refine va_get (D := D) (ci := 4) (v := .int (f 12 3)) (C := RX4) (T := TX4) (N := 7) hx hb hts hiX4 hown hK hP 12 rfl rfl 3 (by decide) lk22 (fun _ h9 => h9) rfl dX4_readToken_40 ?_
        refine lv_iconst (v := 1) hx hb dX4_readToken_43 (by decide) ?_
        refine lv_iadd hx hb dX4_readToken_44 ?_
        obtain ⟨f4, ef4, hf⟩ := sq_out hf
        refine va_put (D := D) (ci := 4) (v := .int ((f 12 3) + 1)) (ty := .int) (C := RX4) (T := TX4) (N := 7) hx hb hts hiX4 tyX4 tyX4_ok nmX4 hown hK hP (dP hj f t) hS 12 rfl rfl 3 (by decide) lk22 (fun _ h9 => h9) rfl (by decide +kernel) rfl rfl (Nat.le_of_ble_eq_true rfl) dX4_readToken_45 (fun H locs hP _ hS => ?_)
        have hP := sP_12_3 ef4 hP
        refine lv_goto (tgt := 8) hx hb dX4_readToken_48 (by decide) ?_
        exact ih f4 hf H locs ls hP hS (lv_sub hl [0] rfl)
def q_X4_readToken (N : Nat) (f : mM) : Option (mM) := sq (st2 f 12 3 (f 12 4)) (fun f1 => bi (lp_X4_readToken_8 N N f1) (fun f5 => bi (q_X7_byteAt (f5 12 3) f5) (fun y7 => sq (st2 f5 12 4 ((f5 12 3) + 1)) (fun f9 => if y7 = (-1) then sq (st2 f9 12 2 1) (fun f24 => some f24) else if y7 = 59 then sq (st2 f9 12 2 2) (fun f23 => some f23) else bi (q_X4_isDigit y7) (fun y10 => if y10 = 0 then bi (q_X4_isLetter y7) (fun y12 => if y12 = 0 then sq (st2 f9 12 2 0) (fun f14 => some f14) else bi2 (q_X4_lettersToken N f9) (fun y15 f16 => sq (st2 f16 12 2 y15) (fun f18 => some f18))) else bi2 (q_X4_digitsToken N f9) (fun y19 f20 => sq (st2 f20 12 2 y19) (fun f22 => some f22)))))))
set_option maxHeartbeats 4000000 in
set_option maxRecDepth 100000 in
theorem b_X4_readToken (C0 : cX p s m args meth c cX4_readToken 2 none RX4 wsX4_readToken D cy (xP ad sk sv)) (hj : jP ad) (hR : 6 ≤ R.frames ∧ 127 ≤ R.locals) (N : Nat)  (f : mM) (t : Int64) (fR : mM) (hf : q_X4_readToken N f = some fR) (kr : ∀ (H : Heap) (locs : List Loc) (ls : Array Slot) (pc : Nat), decode cX4_readToken pc = .ok (.return_, 1) → va_P D vwCl (wP ad cy fR t) H → va_S (aP ad) s.heap H locs → W p l e R s m args below meth c H locs 0 0 Q (F0 m pc ls [])) (H : Heap) (locs : List Loc) (ls : Array Slot) (hP : va_P D vwCl (wP ad cy f t) H) (hS : va_S (aP ad) s.heap H locs) (hl : lv_has ls 2 [(0, .ref (ad 12))]) : W p l e R s m args below meth c H locs 0 0 Q (F0 m 0 ls []) := by
  obtain ⟨hx, hb, hr, hml, hown, hts, hlocks, hK, hX0⟩ := id C0
  have lk25 := hts (.fieldLink RX4 25 "PlankNine$Reader" "behind" "I") (List.mem_of_getElem? (i := 1) rfl)
  have hiX4 : ∀ w ∈ u_ws RX4 TX4 7, w ∈ wsX4_readToken := fun w h => List.mem_cons_of_mem _ (List.mem_append_left _ (List.mem_append_right _ h))
  have lk22 := hts (.fieldLink RX4 22 "PlankNine$Reader" "start" "I") (List.mem_of_getElem? (i := 2) rfl)
  have lk35 := hts (.fieldLink RX4 35 "PlankNine$Reader" "text" "LPlankNine$Text;") (List.mem_of_getElem? (i := 3) rfl)
  have lk18 := hts (.fieldLink RX4 18 "PlankNine$Reader" "token" "I") (List.mem_of_getElem? (i := 4) rfl)
  unfold q_X4_readToken at hf
  refine lv_aload_n hx hb dX4_readToken_0 rfl (lv_at hl 0 rfl) ?_
  refine lv_aload_n hx hb dX4_readToken_1 rfl (lv_at hl 0 rfl) ?_
  refine va_get (D := D) (ci := 4) (v := .int (f 12 4)) (C := RX4) (T := TX4) (N := 7) hx hb hts hiX4 hown hK hP 12 rfl rfl 4 (by decide) lk25 (fun _ h9 => h9) rfl dX4_readToken_2 ?_
  obtain ⟨f1, ef1, hf⟩ := sq_out hf
  refine va_put (D := D) (ci := 4) (v := .int (f 12 4)) (ty := .int) (C := RX4) (T := TX4) (N := 7) hx hb hts hiX4 tyX4 tyX4_ok nmX4 hown hK hP (dP hj f t) hS 12 rfl rfl 3 (by decide) lk22 (fun _ h9 => h9) rfl (by decide +kernel) rfl rfl (Nat.le_of_ble_eq_true rfl) dX4_readToken_5 (fun H locs hP _ hS => ?_)
  have hP := sP_12_3 ef1 hP
  obtain ⟨f5, hlp6, hf⟩ := bi_out hf
  refine lp_X4_readToken_8_w C0 hj hR N t f5 ?_ N f1 hlp6 H locs ls hP hS (lv_sub hl [0] rfl)
  intro H locs ls hP hS hl
  refine lv_aload_n hx hb dX4_readToken_51 rfl (lv_at hl 0 rfl) ?_
  refine va_get (D := D) (ci := 4) (v := .ref (ad 1)) (C := RX4) (T := TX4) (N := 7) hx hb hts hiX4 hown hK hP 12 rfl rfl 0 (by decide) lk35 (fun _ h9 => h9) rfl dX4_readToken_52 ?_
  refine lv_aload_n hx hb dX4_readToken_55 rfl (lv_at hl 0 rfl) ?_
  refine va_get (D := D) (ci := 4) (v := .int (f5 12 3)) (C := RX4) (T := TX4) (N := 7) hx hb hts hiX4 hown hK hP 12 rfl rfl 3 (by decide) lk22 (fun _ h9 => h9) rfl dX4_readToken_56 ?_
  obtain ⟨y7, hq8, hf⟩ := bi_out hf
  refine cw_vi (As := [.int (f5 12 3)]) (rest := []) ⟨hx, hb, hml, hown, hts⟩ xP_S hK hX0 hS hP (c_X7_byteAt hj l (f5 12 3) f5 t y7 hq8) (cwV 1 hts gX4_readToken_X7_byteAt rfl rfl rfl (by decide +kernel) ⟨Nat.le_trans (Nat.le_of_ble_eq_true rfl) hR.1, Nat.le_trans (Nat.le_of_ble_eq_true rfl) hR.2⟩) (va_recv hK hP (ci := 7) (q0 := 1) rfl rfl) rfl hl.1 rfl (Nat.le_of_ble_eq_true rfl) ⟨Nat.zero_le _, Nat.zero_le _⟩ dX4_readToken_59 (fun H locs hP hS => ?_)
  refine lv_istore_n (lv' := [(1, .int y7), (0, .ref (ad 12))]) hx hb dX4_readToken_62 rfl hl (by decide) rfl (fun ls hl => ?_)
  refine lv_aload_n hx hb dX4_readToken_63 rfl (lv_at hl 1 rfl) ?_
  refine lv_aload_n hx hb dX4_readToken_64 rfl (lv_at hl 1 rfl) ?_
  refine va_get (D := D) (ci := 4) (v := .int (f5 12 3)) (C := RX4) (T := TX4) (N := 7) hx hb hts hiX4 hown hK hP 12 rfl rfl 3 (by decide) lk22 (fun _ h9 => h9) rfl dX4_readToken_65 ?_
  refine lv_iconst (v := 1) hx hb dX4_readToken_68 (by decide) ?_
  refine lv_iadd hx hb dX4_readToken_69 ?_
  obtain ⟨f9, ef9, hf⟩ := sq_out hf
  refine va_put (D := D) (ci := 4) (v := .int ((f5 12 3) + 1)) (ty := .int) (C := RX4) (T := TX4) (N := 7) hx hb hts hiX4 tyX4 tyX4_ok nmX4 hown hK hP (dP hj f5 t) hS 12 rfl rfl 4 (by decide) lk25 (fun _ h9 => h9) rfl (by decide +kernel) rfl rfl (Nat.le_of_ble_eq_true rfl) dX4_readToken_70 (fun H locs hP _ hS => ?_)
  have hP := sP_12_4 ef9 hP
  refine lv_iload_n hx hb dX4_readToken_73 rfl (lv_at hl 0 rfl) ?_
  refine lv_iconst (v := (-1)) hx hb dX4_readToken_74 (by decide) ?_
  refine lv_icmp_ne (tgt := 86) hx hb dX4_readToken_75 (by decide) (fun c75 => ?_) (fun c75 => ?_)
  · have hf := itF hf c75
    refine lv_iload_n hx hb dX4_readToken_86 rfl (lv_at hl 0 rfl) ?_
    refine lv_bipush (v := 59) hx hb dX4_readToken_87 (by decide) ?_
    refine lv_icmp_ne (tgt := 100) hx hb dX4_readToken_89 (by decide) (fun c89 => ?_) (fun c89 => ?_)
    · have hf := itF hf c89
      refine lv_iload_n hx hb dX4_readToken_100 rfl (lv_at hl 0 rfl) ?_
      obtain ⟨y10, hq11, hf⟩ := bi_out hf
      refine cw_si (As := [.int y7]) (rest := []) ⟨hx, hb, hml, hown, hts⟩ xP_S hK hX0 hS hP (c_X4_isDigit hj l y7 f9 t y10 hq11) (va_cwS 1 hts gX4_readToken_X4_isDigit rfl rfl rfl (by decide +kernel) ⟨Nat.le_trans (Nat.le_of_ble_eq_true rfl) hR.1, Nat.le_trans (Nat.le_of_ble_eq_true rfl) hR.2⟩) rfl hl.1 rfl (Nat.le_of_ble_eq_true rfl) ⟨Nat.zero_le _, Nat.zero_le _⟩ dX4_readToken_101 (fun H locs hP hS => ?_)
      refine lv_if_eq (tgt := 118) hx hb dX4_readToken_104 (by decide) (fun c104 => ?_) (fun c104 => ?_)
      · have hf := itT hf c104
        refine lv_iload_n hx hb dX4_readToken_118 rfl (lv_at hl 0 rfl) ?_
        obtain ⟨y12, hq13, hf⟩ := bi_out hf
        refine cw_si (As := [.int y7]) (rest := []) ⟨hx, hb, hml, hown, hts⟩ xP_S hK hX0 hS hP (c_X4_isLetter hj l y7 f9 t y12 hq13) (va_cwS 1 hts gX4_readToken_X4_isLetter rfl rfl rfl (by decide +kernel) ⟨Nat.le_trans (Nat.le_of_ble_eq_true rfl) hR.1, Nat.le_trans (Nat.le_of_ble_eq_true rfl) hR.2⟩) rfl hl.1 rfl (Nat.le_of_ble_eq_true rfl) ⟨Nat.zero_le _, Nat.zero_le _⟩ dX4_readToken_119 (fun H locs hP hS => ?_)
        refine lv_if_eq (tgt := 136) hx hb dX4_readToken_122 (by decide) (fun c122 => ?_) (fun c122 => ?_)
        · have hf := itT hf c122
          refine lv_aload_n hx hb dX4_readToken_136 rfl (lv_at hl 1 rfl) ?_
          refine lv_iconst (v := 0) hx hb dX4_readToken_137 (by decide) ?_
          obtain ⟨f14, ef14, hf⟩ := sq_out hf
          refine va_put (D := D) (ci := 4) (v := .int 0) (ty := .int) (C := RX4) (T := TX4) (N := 7) hx hb hts hiX4 tyX4 tyX4_ok nmX4 hown hK hP (dP hj f9 t) hS 12 rfl rfl 2 (by decide) lk18 (fun _ h9 => h9) rfl (by decide +kernel) rfl rfl (Nat.le_of_ble_eq_true rfl) dX4_readToken_138 (fun H locs hP _ hS => ?_)
          have hP := sP_12_2 ef14 hP
          obtain rfl := Option.some.inj hf
          exact kr H locs ls 141 dX4_readToken_141 hP hS
        · have hf := itF hf c122
          refine lv_aload_n hx hb dX4_readToken_125 rfl (lv_at hl 1 rfl) ?_
          refine lv_aload_n hx hb dX4_readToken_126 rfl (lv_at hl 1 rfl) ?_
          obtain ⟨y15, f16, hq17, hf⟩ := bi2_out hf
          refine cw_vi (As := []) (rest := [.ref (ad 12)]) ⟨hx, hb, hml, hown, hts⟩ xP_S hK hX0 hS hP (c_X4_lettersToken hj l N f9 t y15 f16 hq17) (cwV 0 hts gX4_readToken_X4_lettersToken rfl rfl rfl (by decide +kernel) ⟨Nat.le_trans (Nat.le_of_ble_eq_true rfl) hR.1, Nat.le_trans (Nat.le_of_ble_eq_true rfl) hR.2⟩) (va_recv hK hP (ci := 4) (q0 := 12) rfl rfl) rfl hl.1 rfl (Nat.le_of_ble_eq_true rfl) ⟨Nat.zero_le _, Nat.zero_le _⟩ dX4_readToken_127 (fun H locs hP hS => ?_)
          obtain ⟨f18, ef18, hf⟩ := sq_out hf
          refine va_put (D := D) (ci := 4) (v := .int y15) (ty := .int) (C := RX4) (T := TX4) (N := 7) hx hb hts hiX4 tyX4 tyX4_ok nmX4 hown hK hP (dP hj f16 t) hS 12 rfl rfl 2 (by decide) lk18 (fun _ h9 => h9) rfl (by decide +kernel) rfl rfl (Nat.le_of_ble_eq_true rfl) dX4_readToken_130 (fun H locs hP _ hS => ?_)
          have hP := sP_12_2 ef18 hP
          refine lv_goto (tgt := 141) hx hb dX4_readToken_133 (by decide) ?_
          obtain rfl := Option.some.inj hf
          exact kr H locs ls 141 dX4_readToken_141 hP hS
      · have hf := itF hf c104
        refine lv_aload_n hx hb dX4_readToken_107 rfl (lv_at hl 1 rfl) ?_
        refine lv_aload_n hx hb dX4_readToken_108 rfl (lv_at hl 1 rfl) ?_
        obtain ⟨y19, f20, hq21, hf⟩ := bi2_out hf
        refine cw_vi (As := []) (rest := [.ref (ad 12)]) ⟨hx, hb, hml, hown, hts⟩ xP_S hK hX0 hS hP (c_X4_digitsToken hj l N f9 t y19 f20 hq21) (cwV 0 hts gX4_readToken_X4_digitsToken rfl rfl rfl (by decide +kernel) ⟨Nat.le_trans (Nat.le_of_ble_eq_true rfl) hR.1, Nat.le_trans (Nat.le_of_ble_eq_true rfl) hR.2⟩) (va_recv hK hP (ci := 4) (q0 := 12) rfl rfl) rfl hl.1 rfl (Nat.le_of_ble_eq_true rfl) ⟨Nat.zero_le _, Nat.zero_le _⟩ dX4_readToken_109 (fun H locs hP hS => ?_)
        obtain ⟨f22, ef22, hf⟩ := sq_out hf
        refine va_put (D := D) (ci := 4) (v := .int y19) (ty := .int) (C := RX4) (T := TX4) (N := 7) hx hb hts hiX4 tyX4 tyX4_ok nmX4 hown hK hP (dP hj f20 t) hS 12 rfl rfl 2 (by decide) lk18 (fun _ h9 => h9) rfl (by decide +kernel) rfl rfl (Nat.le_of_ble_eq_true rfl) dX4_readToken_112 (fun H locs hP _ hS => ?_)
        have hP := sP_12_2 ef22 hP
        refine lv_goto (tgt := 141) hx hb dX4_readToken_115 (by decide) ?_
        obtain rfl := Option.some.inj hf
        exact kr H locs ls 141 dX4_readToken_141 hP hS
    · have hf := itT hf c89
      refine lv_aload_n hx hb dX4_readToken_92 rfl (lv_at hl 1 rfl) ?_
      refine lv_iconst (v := 2) hx hb dX4_readToken_93 (by decide) ?_
      obtain ⟨f23, ef23, hf⟩ := sq_out hf
      refine va_put (D := D) (ci := 4) (v := .int 2) (ty := .int) (C := RX4) (T := TX4) (N := 7) hx hb hts hiX4 tyX4 tyX4_ok nmX4 hown hK hP (dP hj f9 t) hS 12 rfl rfl 2 (by decide) lk18 (fun _ h9 => h9) rfl (by decide +kernel) rfl rfl (Nat.le_of_ble_eq_true rfl) dX4_readToken_94 (fun H locs hP _ hS => ?_)
      have hP := sP_12_2 ef23 hP
      refine lv_goto (tgt := 141) hx hb dX4_readToken_97 (by decide) ?_
      obtain rfl := Option.some.inj hf
      exact kr H locs ls 141 dX4_readToken_141 hP hS
  · have hf := itT hf c75
    refine lv_aload_n hx hb dX4_readToken_78 rfl (lv_at hl 1 rfl) ?_
    refine lv_iconst (v := 1) hx hb dX4_readToken_79 (by decide) ?_
    obtain ⟨f24, ef24, hf⟩ := sq_out hf
    refine va_put (D := D) (ci := 4) (v := .int 1) (ty := .int) (C := RX4) (T := TX4) (N := 7) hx hb hts hiX4 tyX4 tyX4_ok nmX4 hown hK hP (dP hj f9 t) hS 12 rfl rfl 2 (by decide) lk18 (fun _ h9 => h9) rfl (by decide +kernel) rfl rfl (Nat.le_of_ble_eq_true rfl) dX4_readToken_80 (fun H locs hP _ hS => ?_)
    have hP := sP_12_2 ef24 hP
    refine lv_goto (tgt := 141) hx hb dX4_readToken_83 (by decide) ?_
    obtain rfl := Option.some.inj hf
    exact kr H locs ls 141 dX4_readToken_141 hP hS
set_option maxHeartbeats 4000000 in
set_option maxRecDepth 100000 in
theorem c_X4_readToken (hj : jP ad) (l : Launch) (N : Nat)  (f : mM) (t : Int64) (fR : mM) (hf : q_X4_readToken N f = some fR) : Met l yX4_readToken wsX4_readToken ({ frames := 6, cells := 0, slots := 0, locals := 127 }) (va_Pc ([.ref (ad 12)]) (pre D cy (wP ad cy) (xP ad sk sv) f t)) (va_Qv (fun (u : mM × Int64) => u = (fR, t)) (atW D (wP ad cy)) (aP ad)) 0 0 (aP ad) := by
  refine Met.ofW (cc := cX4_readToken) (maxL := 2) (ret := none) (by decide) rfl ?_
  intro p e s m args below meth c s₁ B hml hv
  obtain ⟨rfl, hP, hK, hX0⟩ := hv
  have hl := lv_entry ([.ref (ad 12)]) (n := 2) (Nat.le_of_ble_eq_true rfl)
  rw [lg_entry_eq]
  generalize (lg_sl ([.ref (ad 12)]) ++ List.replicate (2 - (lg_sl ([.ref (ad 12)])).length) Slot.unset).toArray = ls at hl ⊢
  have hlocks := B.notSynchronized
  exact b_X4_readToken ⟨B.exec, B.bytes, B.returns, hml, findClass_of_methodNamed B.named, atoms_spec (ws := wsX4_readToken) B.pre, hlocks, hK, hX0⟩ hj ⟨Nat.le_refl _, Nat.le_refl _⟩ N  f t fR hf (fun H locs ls pc hd hP hS => W.vret B.exec B.bytes B.returns (fun t2 ht hW => ⟨⟨(fR, t), rfl, rfl, by show va_P D vwCl _ t2.heap; rw [ht]; exact hP⟩, hS.F ht⟩) hS.2.2 hd) s.heap [] ls hP va_S.rf hl
